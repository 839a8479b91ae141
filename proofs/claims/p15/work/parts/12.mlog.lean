set_option maxRecDepth 100000 in
theorem kw_X4_logs__fieldLink_RX4_127_ActHouseModel_entries_I_ : (.fieldLink RX4 127 "ActHouseModel" "entries" "I" : Cond) ∈ wsX4_logs := by decide +kernel
set_option maxRecDepth 100000 in
theorem kin_X4_logs_X4 : ∀ w ∈ u_ws RX4 TX4 39, w ∈ wsX4_logs := by decide +kernel
set_option maxRecDepth 100000 in
theorem kw_X4_logs__fieldLink_RX4_95_ActHouseModel_log_I_ : (.fieldLink RX4 95 "ActHouseModel" "log" "[I" : Cond) ∈ wsX4_logs := by decide +kernel
set_option maxRecDepth 100000 in
theorem kw_X4_logs__fieldLink_RX4_130_ActHouseModel_now_I_ : (.fieldLink RX4 130 "ActHouseModel" "now" "I" : Cond) ∈ wsX4_logs := by decide +kernel
set_option maxRecDepth 100000 in
theorem kw_X4_logs__arrayClass_int : (.arrayClass .int : Cond) ∈ wsX4_logs := by decide +kernel
def f_X4_logs_64  (v1 : Int32) (v2 : Int32) (v3 : Int32)  (M : MS) : Option (Int32 × MS) := (if 0 ≤ (4 * (M.1 31)).toInt ∧ (4 * (M.1 31)).toInt < M.2.2 then (k_let (mA M 33 ((4 * (M.1 31)).toNatClampNeg) v1) fun M3 => (if 0 ≤ ((4 * (M3.1 31)) + 1).toInt ∧ ((4 * (M3.1 31)) + 1).toInt < M3.2.2 then (k_let (mA M3 33 (((4 * (M3.1 31)) + 1).toNatClampNeg) v2) fun M5 => (if 0 ≤ ((4 * (M5.1 31)) + 2).toInt ∧ ((4 * (M5.1 31)) + 2).toInt < M5.2.2 then (k_let (mA M5 33 (((4 * (M5.1 31)) + 2).toNatClampNeg) v3) fun M7 => (if 0 ≤ ((4 * (M7.1 31)) + 3).toInt ∧ ((4 * (M7.1 31)) + 3).toInt < M7.2.2 then (k_let (mA M7 33 (((4 * (M7.1 31)) + 3).toNatClampNeg) (M7.1 0)) fun M9 => (k_let (mI M9 31 ((M9.1 31) + 1)) fun M10 => some ((0 : Int32), M10))) else none)) else none)) else none)) else none)
def f_X4_logs_30  : Nat → Int32 → Int32 → Int32 → Int32 → (Nat → Int32) → MS → Option (Int32 × MS)
  | 0, _, _, _, _, _, _ => none
  | k + 1, v1, v2, v3, v5, f, M => (if (nI M.2.2) ≤ v5 then (k_let (mG M f) fun M13 => f_X4_logs_64  v1 v2 v3 M13) else (if 0 ≤ v5.toInt ∧ v5.toInt < M.2.2 then (if 0 ≤ v5.toInt ∧ v5.toInt < (2 * M.2.2) then f_X4_logs_30  k v1 v2 v3 (v5 + 1) (upd f v5.toNatClampNeg ((M.2.1 33) v5.toNatClampNeg)) M else none) else none))
def f_X4_logs (x1 : Int32) (x2 : Int32) (x3 : Int32) (M0 : MS) : Option (Int32 × MS) := (if (4 * ((M0.1 31) + 1)) ≤ (nI M0.2.2) then f_X4_logs_64  x1 x2 x3 M0 else (if 4000 ≤ M0.2.2 ∧ M0.2.2 ≤ 1024000 then f_X4_logs_30  3000000 x1 x2 x3 (0 : Int32) (fun _ => 0) M0 else none))
set_option maxHeartbeats 4000000 in
set_option maxRecDepth 100000 in
theorem c_X4_logs {l : Launch} {D : va_G} {hp : Heap} {cI cZ : ClassId} {h : Nat} {ad : Nat → Nat} {M0 M' : MS} {x1 x2 x3 r' : Int32} (hg : M0.2.2 ≤ 2048000) (hf : f_X4_logs x1 x2 x3 M0 = some (r', M')) : Met l yX4_logs wsX4_logs ({ frames := 0, cells := (2048000 - M0.2.2) / 4000, slots := 2 * (2048000 - M0.2.2), locals := 0 }) (va_Pc [.ref h, .int x1, .int x2, .int x3] (k_PreH D [(cI, .int), (cZ, .boolean)] (mW cI cZ h ad M0) hp)) (va_Qv (fun (u : va_W × List (ClassId × FieldType)) => ∃ ad' : Nat → Nat, u = (mW cI cZ h ad' M', [(cI, .int), (cZ, .boolean)]) ∧ M0.2.2 ≤ M'.2.2 ∧ M'.2.2 ≤ 2048000) (k_BM D (va_A (mW cI cZ h ad M0) hp.size) hp ((M'.2.2 - M0.2.2) / 4000) (2 * (M'.2.2 - M0.2.2))) (va_A (mW cI cZ h ad M0) hp.size)) ((2048000 - M0.2.2) / 4000) (2 * (2048000 - M0.2.2)) (va_A (mW cI cZ h ad M0) hp.size) := by
  refine Met.ofW (cc := cX4_logs) (maxL := 6) (ret := none) (by decide) rfl ?_
  intro p e s m args below meth c s₁ B hml hv
  obtain ⟨rfl, hsz, hP, hK, hD0⟩ := hv
  have hx := B.exec
  have hb := B.bytes
  have hr := B.returns
  have hts := atoms_spec (ws := wsX4_logs) B.pre
  have hown : s.vm.findClass RX4 = some m.cls := findClass_of_methodNamed B.named
  have hlocks := B.notSynchronized
  have hsz : s.heap = hp := hsz
  subst hsz
  have hD := hD0.self (sz := s.heap.size)
  generalize hAe : va_A (mW cI cZ h ad M0) s.heap.size = A at hD ⊢
  have hA : ∀ q : Nat, s.heap.size ≤ q → A q := fun q h => by rw [← hAe]; exact Or.inr h
  have hS : va_S A s.heap s.heap [] := va_S.rf
  have hl := lv_entry ([.ref h, .int x1, .int x2, .int x3]) (n := 6) (Nat.le_of_ble_eq_true rfl)
  rw [lg_entry_eq]
  generalize (lg_sl ([.ref h, .int x1, .int x2, .int x3]) ++ List.replicate (6 - (lg_sl ([.ref h, .int x1, .int x2, .int x3])).length) Slot.unset).toArray = ls at hl ⊢
  have hl : lv_has ls 6 [(0, .ref h), (1, .int x1), (2, .int x2), (3, .int x3)] := hl
  refine k_Q (fun Q hQ => ?_)
  have B64 : ∀ (v1 : Int32) (v2 : Int32) (v3 : Int32)  (M : MS) (ad : Nat → Nat) (H : Heap) (locs : List Loc) (ls : Array Slot), f_X4_logs_64 v1 v2 v3 M = some (r', M') → (M0.2.2 ≤ M.2.2 ∧ M.2.2 ≤ 2048000) → va_P D vwCl (mW cI cZ h ad M) H → va_D A (mW cI cZ h ad M) → va_S A s.heap H locs → lv_has ls 6 [(0, .ref h), (1, .int v1), (2, .int v2), (3, .int v3)] → W p l e (headSpec wsX4_logs ({ frames := 0, cells := (2048000 - M0.2.2) / 4000, slots := 2 * (2048000 - M0.2.2), locals := 0 })).room s m ([.ref h, .int x1, .int x2, .int x3] : List Value).toArray below meth c H locs (((M.2.2 - M0.2.2) / 4000)) ((2 * (M.2.2 - M0.2.2))) Q (F0 m 64 ls []) := by
    intro v1 v2 v3  M ad H locs ls hq hg hP hD hS hl
    rw [f_X4_logs_64] at hq
    refine lv_aload_n hx hb dX4_logs_64 rfl (lv_at hl 0 rfl) ?_
    refine va_get (D := D) (ci := 4) (v := .ref (ad 33)) (C := RX4) (T := TX4) (N := 39) hx hb hts kin_X4_logs_X4 hown hK hP 0 rfl rfl 33 (by decide) (hts _ kw_X4_logs__fieldLink_RX4_95_ActHouseModel_log_I_) (fun _ h9 => h9) rfl dX4_logs_65 ?_
    refine lv_iconst (v := 4) hx hb dX4_logs_68 (by decide) ?_
    refine lv_aload_n hx hb dX4_logs_69 rfl (lv_at hl 0 rfl) ?_
    refine va_get (D := D) (ci := 4) (v := .int (M.1 31)) (C := RX4) (T := TX4) (N := 39) hx hb hts kin_X4_logs_X4 hown hK hP 0 rfl rfl 31 (by decide) (hts _ kw_X4_logs__fieldLink_RX4_127_ActHouseModel_entries_I_) (fun _ h9 => h9) rfl dX4_logs_70 ?_
    refine lv_imul hx hb dX4_logs_73 ?_
    refine lv_iload_n hx hb dX4_logs_74 rfl (lv_at hl 1 rfl) ?_
    obtain ⟨b2, hq⟩ := k_if hq
    refine va_iast hx hb hK hP hD hS 29 0 (f := (M.2.1 33)) rfl rfl (x := v1) (k_in b2.1 b2.2) dX4_logs_75 (fun H locs hP hD hS => ?_)
    obtain ⟨M3, eM3, hg3, hq⟩ := k_lA hq
    rw [mW_A33, ← eM3] at hP hD
    have hP : va_P D vwCl (mW cI cZ h ad M3) _ := hP
    have hD : va_D A (mW cI cZ h ad M3) := hD
    refine W.widen (k := ((M3.2.2 - M0.2.2) / 4000)) (n := (2 * (M3.2.2 - M0.2.2))) (by omega) (by omega) ?_
    refine lv_aload_n hx hb dX4_logs_76 rfl (lv_at hl 0 rfl) ?_
    refine va_get (D := D) (ci := 4) (v := .ref (ad 33)) (C := RX4) (T := TX4) (N := 39) hx hb hts kin_X4_logs_X4 hown hK hP 0 rfl rfl 33 (by decide) (hts _ kw_X4_logs__fieldLink_RX4_95_ActHouseModel_log_I_) (fun _ h9 => h9) rfl dX4_logs_77 ?_
    refine lv_iconst (v := 4) hx hb dX4_logs_80 (by decide) ?_
    refine lv_aload_n hx hb dX4_logs_81 rfl (lv_at hl 0 rfl) ?_
    refine va_get (D := D) (ci := 4) (v := .int (M3.1 31)) (C := RX4) (T := TX4) (N := 39) hx hb hts kin_X4_logs_X4 hown hK hP 0 rfl rfl 31 (by decide) (hts _ kw_X4_logs__fieldLink_RX4_127_ActHouseModel_entries_I_) (fun _ h9 => h9) rfl dX4_logs_82 ?_
    refine lv_imul hx hb dX4_logs_85 ?_
    refine lv_iconst (v := 1) hx hb dX4_logs_86 (by decide) ?_
    refine lv_iadd hx hb dX4_logs_87 ?_
    refine lv_iload_n hx hb dX4_logs_88 rfl (lv_at hl 2 rfl) ?_
    obtain ⟨b4, hq⟩ := k_if hq
    refine va_iast hx hb hK hP hD hS 29 0 (f := (M3.2.1 33)) rfl rfl (x := v2) (k_in b4.1 b4.2) dX4_logs_89 (fun H locs hP hD hS => ?_)
    obtain ⟨M5, eM5, hg5, hq⟩ := k_lA hq
    rw [mW_A33, ← eM5] at hP hD
    have hP : va_P D vwCl (mW cI cZ h ad M5) _ := hP
    have hD : va_D A (mW cI cZ h ad M5) := hD
    refine W.widen (k := ((M5.2.2 - M0.2.2) / 4000)) (n := (2 * (M5.2.2 - M0.2.2))) (by omega) (by omega) ?_
    refine lv_aload_n hx hb dX4_logs_90 rfl (lv_at hl 0 rfl) ?_
    refine va_get (D := D) (ci := 4) (v := .ref (ad 33)) (C := RX4) (T := TX4) (N := 39) hx hb hts kin_X4_logs_X4 hown hK hP 0 rfl rfl 33 (by decide) (hts _ kw_X4_logs__fieldLink_RX4_95_ActHouseModel_log_I_) (fun _ h9 => h9) rfl dX4_logs_91 ?_
    refine lv_iconst (v := 4) hx hb dX4_logs_94 (by decide) ?_
    refine lv_aload_n hx hb dX4_logs_95 rfl (lv_at hl 0 rfl) ?_
    refine va_get (D := D) (ci := 4) (v := .int (M5.1 31)) (C := RX4) (T := TX4) (N := 39) hx hb hts kin_X4_logs_X4 hown hK hP 0 rfl rfl 31 (by decide) (hts _ kw_X4_logs__fieldLink_RX4_127_ActHouseModel_entries_I_) (fun _ h9 => h9) rfl dX4_logs_96 ?_
    refine lv_imul hx hb dX4_logs_99 ?_
    refine lv_iconst (v := 2) hx hb dX4_logs_100 (by decide) ?_
    refine lv_iadd hx hb dX4_logs_101 ?_
    refine lv_iload_n hx hb dX4_logs_102 rfl (lv_at hl 3 rfl) ?_
    obtain ⟨b6, hq⟩ := k_if hq
    refine va_iast hx hb hK hP hD hS 29 0 (f := (M5.2.1 33)) rfl rfl (x := v3) (k_in b6.1 b6.2) dX4_logs_103 (fun H locs hP hD hS => ?_)
    obtain ⟨M7, eM7, hg7, hq⟩ := k_lA hq
    rw [mW_A33, ← eM7] at hP hD
    have hP : va_P D vwCl (mW cI cZ h ad M7) _ := hP
    have hD : va_D A (mW cI cZ h ad M7) := hD
    refine W.widen (k := ((M7.2.2 - M0.2.2) / 4000)) (n := (2 * (M7.2.2 - M0.2.2))) (by omega) (by omega) ?_
    refine lv_aload_n hx hb dX4_logs_104 rfl (lv_at hl 0 rfl) ?_
    refine va_get (D := D) (ci := 4) (v := .ref (ad 33)) (C := RX4) (T := TX4) (N := 39) hx hb hts kin_X4_logs_X4 hown hK hP 0 rfl rfl 33 (by decide) (hts _ kw_X4_logs__fieldLink_RX4_95_ActHouseModel_log_I_) (fun _ h9 => h9) rfl dX4_logs_105 ?_
    refine lv_iconst (v := 4) hx hb dX4_logs_108 (by decide) ?_
    refine lv_aload_n hx hb dX4_logs_109 rfl (lv_at hl 0 rfl) ?_
    refine va_get (D := D) (ci := 4) (v := .int (M7.1 31)) (C := RX4) (T := TX4) (N := 39) hx hb hts kin_X4_logs_X4 hown hK hP 0 rfl rfl 31 (by decide) (hts _ kw_X4_logs__fieldLink_RX4_127_ActHouseModel_entries_I_) (fun _ h9 => h9) rfl dX4_logs_110 ?_
    refine lv_imul hx hb dX4_logs_113 ?_
    refine lv_iconst (v := 3) hx hb dX4_logs_114 (by decide) ?_
    refine lv_iadd hx hb dX4_logs_115 ?_
    refine lv_aload_n hx hb dX4_logs_116 rfl (lv_at hl 0 rfl) ?_
    refine va_get (D := D) (ci := 4) (v := .int (M7.1 0)) (C := RX4) (T := TX4) (N := 39) hx hb hts kin_X4_logs_X4 hown hK hP 0 rfl rfl 0 (by decide) (hts _ kw_X4_logs__fieldLink_RX4_130_ActHouseModel_now_I_) (fun _ h9 => h9) rfl dX4_logs_117 ?_
    obtain ⟨b8, hq⟩ := k_if hq
    refine va_iast hx hb hK hP hD hS 29 0 (f := (M7.2.1 33)) rfl rfl (x := (M7.1 0)) (k_in b8.1 b8.2) dX4_logs_120 (fun H locs hP hD hS => ?_)
    obtain ⟨M9, eM9, hg9, hq⟩ := k_lA hq
    rw [mW_A33, ← eM9] at hP hD
    have hP : va_P D vwCl (mW cI cZ h ad M9) _ := hP
    have hD : va_D A (mW cI cZ h ad M9) := hD
    refine W.widen (k := ((M9.2.2 - M0.2.2) / 4000)) (n := (2 * (M9.2.2 - M0.2.2))) (by omega) (by omega) ?_
    refine lv_aload_n hx hb dX4_logs_121 rfl (lv_at hl 0 rfl) ?_
    refine lv_dup hx hb dX4_logs_122 rfl ?_
    refine va_get (D := D) (ci := 4) (v := .int (M9.1 31)) (C := RX4) (T := TX4) (N := 39) hx hb hts kin_X4_logs_X4 hown hK hP 0 rfl rfl 31 (by decide) (hts _ kw_X4_logs__fieldLink_RX4_127_ActHouseModel_entries_I_) (fun _ h9 => h9) rfl dX4_logs_123 ?_
    refine lv_iconst (v := 1) hx hb dX4_logs_126 (by decide) ?_
    refine lv_iadd hx hb dX4_logs_127 ?_
    refine va_put (D := D) (ci := 4) (v := .int ((M9.1 31) + 1)) (ty := .int) (C := RX4) (T := TX4) (N := 39) hx hb hts kin_X4_logs_X4 tyX4 tyX4_ok nmX4 hown hK hP hD hS 0 (fs := mF ad M9) rfl rfl 31 (by decide) (hts _ kw_X4_logs__fieldLink_RX4_127_ActHouseModel_entries_I_) (fun _ h9 => h9) rfl (by decide +kernel) rfl rfl (Nat.le_of_ble_eq_true rfl) dX4_logs_128 (fun H locs hP hD hS => ?_)
    obtain ⟨M10, eM10, hg10, hq⟩ := k_lI hq
    rw [mW_I31, ← eM10] at hP hD
    have hP : va_P D vwCl (mW cI cZ h ad M10) _ := hP
    have hD : va_D A (mW cI cZ h ad M10) := hD
    refine W.widen (k := ((M10.2.2 - M0.2.2) / 4000)) (n := (2 * (M10.2.2 - M0.2.2))) (by omega) (by omega) ?_
    obtain ⟨e2, e3⟩ := k_so hq
    subst hQ
    have hP : va_P D vwCl (mW cI cZ h ad M10) _ := hP
    have hD : va_D A (mW cI cZ h ad M10) := hD
    have hgE := congrArg (fun X : MS => X.2.2) e3
    have hgE : M10.2.2 = M'.2.2 := hgE
    refine k_facts (fun hm1 hm2 hm3 => ?_)
    refine W.widen (k := (2048000 - M0.2.2) / 4000) (n := 2 * (2048000 - M0.2.2)) (by omega) (by omega) ?_
    exact W.vret hx hb hr (fun t ht hW => ⟨⟨(mW cI cZ h ad M10, [(cI, .int), (cZ, .boolean)]), rfl, ⟨ad, (congrArg (fun X : MS => ((mW cI cZ h ad X, [(cI, .int), (cZ, .boolean)]) : va_W × List (ClassId × FieldType))) e3), by omega, by omega⟩, ⟨⟨by rw [ht]; exact hP, va_K.moved hW.alike hK, hD⟩, by rw [ht]; exact hm3, by rw [ht]; omega, by rw [ht]; omega⟩⟩, hS.F ht⟩) hS.2.2 dX4_logs_131
  have B30 : ∀  (k : Nat), ∀ (v1 : Int32) (v2 : Int32) (v3 : Int32) (v5 : Int32) (f : Nat → Int32) (M : MS) (ad : Nat → Nat) (q : Nat) (H : Heap) (locs : List Loc) (ls : Array Slot), f_X4_logs_30  k v1 v2 v3 v5 f M = some (r', M') → (M0.2.2 ≤ M.2.2 ∧ 4000 ≤ M.2.2 ∧ M.2.2 ≤ 1024000) → va_P D vwCl (mW cI cZ h ad M ++ [(q, .inl (cI, 2 * M.2.2, .inl f))]) H → va_D A (mW cI cZ h ad M ++ [(q, .inl (cI, 2 * M.2.2, .inl f))]) → va_S A s.heap H locs → lv_has ls 6 [(0, .ref h), (1, .int v1), (2, .int v2), (3, .int v3), (4, .ref q), (5, .int v5)] → W p l e (headSpec wsX4_logs ({ frames := 0, cells := (2048000 - M0.2.2) / 4000, slots := 2 * (2048000 - M0.2.2), locals := 0 })).room s m ([.ref h, .int x1, .int x2, .int x3] : List Value).toArray below meth c H locs (((2 * M.2.2 - M0.2.2) / 4000)) ((2 * (2 * M.2.2 - M0.2.2))) Q (F0 m 30 ls []) := by
    intro  k
    induction k with
    | zero =>
      intro v1 v2 v3 v5 f M ad q H locs ls hq hg hP hD hS hl
      exact absurd hq (by rw [f_X4_logs_30]; exact k_non)
    | succ k ih =>
      intro v1 v2 v3 v5 f M ad q H locs ls hq hg hP hD hS hl
      rw [f_X4_logs_30] at hq
      refine lv_iload hx hb dX4_logs_30 (lv_at hl 5 rfl) ?_
      refine lv_aload_n hx hb dX4_logs_32 rfl (lv_at hl 0 rfl) ?_
      refine va_get (D := D) (ci := 4) (v := .ref (ad 33)) (C := RX4) (T := TX4) (N := 39) hx hb hts kin_X4_logs_X4 hown hK hP 0 rfl rfl 33 (by decide) (hts _ kw_X4_logs__fieldLink_RX4_95_ActHouseModel_log_I_) (fun _ h9 => h9) rfl dX4_logs_33 ?_
      refine va_alen hx hb hK hP 29 0 rfl rfl (v := nI M.2.2) (by first | rfl | decide) dX4_logs_36 ?_
      refine lv_icmp_ge (tgt := 58) hx hb dX4_logs_37 (by decide) (fun c12 => ?_) (fun c12 => ?_)
      · skip
        rw [if_pos c12] at hq
        refine lv_aload_n hx hb dX4_logs_58 rfl (lv_at hl 0 rfl) ?_
        refine lv_aload hx hb dX4_logs_59 (lv_at hl 4 rfl) ?_
        refine va_put (D := D) (ci := 4) (v := .ref q) (ty := .array .int) (C := RX4) (T := TX4) (N := 39) (fs := mF ad M) hx hb hts kin_X4_logs_X4 tyX4 tyX4_ok nmX4 hown hK hP hD hS 0 rfl rfl 33 (by decide) (hts _ kw_X4_logs__fieldLink_RX4_95_ActHouseModel_log_I_) (fun _ h9 => h9) rfl (by decide +kernel) rfl rfl (Nat.le_of_ble_eq_true rfl) dX4_logs_61 (fun H locs hP hD hS => ?_)
        have hP := hP.sub (ws' := mW cI cZ h (va_up ad 33 q) (mG M f)) [0, 1, 2, 3, 4, 5, 6, 7, 8, 9, 10, 11, 12, 13, 14, 15, 16, 17, 18, 19, 20, 21, 22, 23, 24, 25, 26, 27, 28, 33, 30, 31, 32] rfl
        have hD := hD.sub (ws' := mW cI cZ h (va_up ad 33 q) (mG M f)) [0, 1, 2, 3, 4, 5, 6, 7, 8, 9, 10, 11, 12, 13, 14, 15, 16, 17, 18, 19, 20, 21, 22, 23, 24, 25, 26, 27, 28, 33, 30, 31, 32] (by decide) rfl
        obtain ⟨M13, eM13, hg13, hq⟩ := k_lG hq
        rw [← eM13] at hP hD
        refine W.widen (k := ((M13.2.2 - M0.2.2) / 4000)) (n := (2 * (M13.2.2 - M0.2.2))) (by omega) (by omega) ?_
        have hP : va_P D vwCl (mW cI cZ h (va_up ad 33 q) M13) _ := hP
        have hD : va_D A (mW cI cZ h (va_up ad 33 q) M13) := hD
        exact B64  v1 v2 v3 M13 (va_up ad 33 q) _ _ _ hq (by show M0.2.2 ≤ M13.2.2 ∧ M13.2.2 ≤ 2048000; omega) hP hD hS (lv_sub hl [0, 1, 2, 3] rfl)
      · skip
        rw [if_neg c12] at hq
        refine lv_aload hx hb dX4_logs_40 (lv_at hl 4 rfl) ?_
        refine lv_iload hx hb dX4_logs_42 (lv_at hl 5 rfl) ?_
        refine lv_aload_n hx hb dX4_logs_44 rfl (lv_at hl 0 rfl) ?_
        refine va_get (D := D) (ci := 4) (v := .ref (ad 33)) (C := RX4) (T := TX4) (N := 39) hx hb hts kin_X4_logs_X4 hown hK hP 0 rfl rfl 33 (by decide) (hts _ kw_X4_logs__fieldLink_RX4_95_ActHouseModel_log_I_) (fun _ h9 => h9) rfl dX4_logs_45 ?_
        refine lv_iload hx hb dX4_logs_48 (lv_at hl 5 rfl) ?_
        obtain ⟨b14, hq⟩ := k_if hq
        refine va_iald hx hb hK hP 29 0 (f := (M.2.1 33)) rfl rfl (k_in b14.1 b14.2) dX4_logs_50 ?_
        obtain ⟨b15, hq⟩ := k_if hq
        refine va_iast hx hb hK hP hD hS 33 0 (f := f) rfl rfl (x := ((M.2.1 33) v5.toNatClampNeg)) (k_in b15.1 b15.2) dX4_logs_51 (fun H locs hP hD hS => ?_)
        have hP : va_P D vwCl (mW cI cZ h ad M ++ [(q, .inl (cI, 2 * M.2.2, .inl (upd f v5.toNatClampNeg ((M.2.1 33) v5.toNatClampNeg))))]) _ := hP
        have hD : va_D A (mW cI cZ h ad M ++ [(q, .inl (cI, 2 * M.2.2, .inl (upd f v5.toNatClampNeg ((M.2.1 33) v5.toNatClampNeg))))]) := hD
        refine lv_iinc (v := v5 + 1) (lv' := [(5, .int (v5 + 1)), (0, .ref h), (1, .int v1), (2, .int v2), (3, .int v3), (4, .ref q)]) hx hb dX4_logs_52 hl (k := 5) rfl (by rfl) (by decide) rfl (fun ls hl => ?_)
        refine lv_goto (tgt := 30) hx hb dX4_logs_55 (by decide) ?_
        exact ih v1 v2 v3 (v5 + 1) (upd f v5.toNatClampNeg ((M.2.1 33) v5.toNatClampNeg)) M ad q _ _ _ hq (by show M0.2.2 ≤ M.2.2 ∧ 4000 ≤ M.2.2 ∧ M.2.2 ≤ 1024000; omega) hP hD hS (lv_sub hl [1, 2, 3, 4, 5, 0] rfl)
  refine W.widen (k := ((M0.2.2 - M0.2.2) / 4000)) (n := (2 * (M0.2.2 - M0.2.2))) (by omega) (by omega) ?_
  have hq := hf
  rw [f_X4_logs] at hq
  refine lv_iconst (v := 4) hx hb dX4_logs_0 (by decide) ?_
  refine lv_aload_n hx hb dX4_logs_1 rfl (lv_at hl 0 rfl) ?_
  refine va_get (D := D) (ci := 4) (v := .int (M0.1 31)) (C := RX4) (T := TX4) (N := 39) hx hb hts kin_X4_logs_X4 hown hK hP 0 rfl rfl 31 (by decide) (hts _ kw_X4_logs__fieldLink_RX4_127_ActHouseModel_entries_I_) (fun _ h9 => h9) rfl dX4_logs_2 ?_
  refine lv_iconst (v := 1) hx hb dX4_logs_5 (by decide) ?_
  refine lv_iadd hx hb dX4_logs_6 ?_
  refine lv_imul hx hb dX4_logs_7 ?_
  refine lv_aload_n hx hb dX4_logs_8 rfl (lv_at hl 0 rfl) ?_
  refine va_get (D := D) (ci := 4) (v := .ref (ad 33)) (C := RX4) (T := TX4) (N := 39) hx hb hts kin_X4_logs_X4 hown hK hP 0 rfl rfl 33 (by decide) (hts _ kw_X4_logs__fieldLink_RX4_95_ActHouseModel_log_I_) (fun _ h9 => h9) rfl dX4_logs_9 ?_
  refine va_alen hx hb hK hP 29 0 rfl rfl (v := nI M0.2.2) (by first | rfl | decide) dX4_logs_12 ?_
  refine lv_icmp_le (tgt := 64) hx hb dX4_logs_13 (by decide) (fun c1 => ?_) (fun c1 => ?_)
  · skip
    rw [if_pos c1] at hq
    exact B64  x1 x2 x3 M0 ad _ _ _ hq (by show M0.2.2 ≤ M0.2.2 ∧ M0.2.2 ≤ 2048000; omega) hP hD hS (lv_sub hl [0, 1, 2, 3] rfl)
  · skip
    rw [if_neg c1] at hq
    refine lv_iconst (v := 2) hx hb dX4_logs_16 (by decide) ?_
    refine lv_aload_n hx hb dX4_logs_17 rfl (lv_at hl 0 rfl) ?_
    refine va_get (D := D) (ci := 4) (v := .ref (ad 33)) (C := RX4) (T := TX4) (N := 39) hx hb hts kin_X4_logs_X4 hown hK hP 0 rfl rfl 33 (by decide) (hts _ kw_X4_logs__fieldLink_RX4_95_ActHouseModel_log_I_) (fun _ h9 => h9) rfl dX4_logs_18 ?_
    refine va_alen hx hb hK hP 29 0 rfl rfl (v := nI M0.2.2) (by first | rfl | decide) dX4_logs_21 ?_
    refine lv_imul hx hb dX4_logs_22 ?_
    obtain ⟨b11, hq⟩ := k_if hq
    have hn0 : (nI M0.2.2).toInt = M0.2.2 := nI_toInt (by omega)
    have hl2 : (2 : Int32).toInt = 2 := by decide
    have hn2 := k_mul2 (x := 2) (y := nI M0.2.2) (N := 2) (by decide) (by omega) (by omega)
    refine k_newa (ty := .int) (N' := 2 * M0.2.2) (a0 := (2 * M0.2.2, .inl (fun _ => 0))) (atype := .int) hx hb (hts _ kw_X4_logs__arrayClass_int) rfl hK 0 rfl (fun _ _ => rfl) hP hD hS hA (fun _ => rfl) (by intro q; have q := k_lt q; have hl0 : (0 : Int32).toInt = 0 := (by decide); omega) (by simp only [k_cl]; omega) (by show 2 * M0.2.2 * 4 ≤ 536870912; omega) (by show ((M0.2.2 - M0.2.2) / 4000) + 1 ≤ (2048000 - M0.2.2) / 4000; omega) (by show (2 * (M0.2.2 - M0.2.2)) + 2 * M0.2.2 ≤ 2 * (2048000 - M0.2.2); omega) dX4_logs_23 (fun q H hP hD hS => ?_)
    refine W.widen (k := ((2 * M0.2.2 - M0.2.2) / 4000)) (n := (2 * (2 * M0.2.2 - M0.2.2))) (by omega) (by omega) ?_
    have hP : va_P D vwCl (mW cI cZ h ad M0 ++ [(q, .inl (cI, 2 * M0.2.2, .inl (fun _ => 0)))]) _ := hP
    have hD : va_D A (mW cI cZ h ad M0 ++ [(q, .inl (cI, 2 * M0.2.2, .inl (fun _ => 0)))]) := hD
    refine lv_astore (lv' := [(4, .ref q), (0, .ref h), (1, .int x1), (2, .int x2), (3, .int x3)]) hx hb dX4_logs_25 hl (by decide) rfl (fun ls hl => ?_)
    refine lv_iconst (v := 0) hx hb dX4_logs_27 (by decide) ?_
    refine lv_istore (lv' := [(5, .int 0), (4, .ref q), (0, .ref h), (1, .int x1), (2, .int x2), (3, .int x3)]) hx hb dX4_logs_28 hl (by decide) rfl (fun ls hl => ?_)
    exact B30  3000000 x1 x2 x3 (0 : Int32) (fun _ => 0) M0 ad q _ _ _ hq (by show M0.2.2 ≤ M0.2.2 ∧ 4000 ≤ M0.2.2 ∧ M0.2.2 ≤ 1024000; omega) hP hD hS (lv_sub hl [2, 3, 4, 5, 1, 0] rfl)
