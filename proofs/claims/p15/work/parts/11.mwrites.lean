set_option maxRecDepth 100000 in
theorem kw_X4_clears__fieldLink_RX4_89_ActHouseModel_queuedMany_I_ : (.fieldLink RX4 89 "ActHouseModel" "queuedMany" "[I" : Cond) ∈ wsX4_clears := by decide +kernel
set_option maxRecDepth 100000 in
theorem kin_X4_clears_X4 : ∀ w ∈ u_ws RX4 TX4 39, w ∈ wsX4_clears := by decide +kernel
set_option maxRecDepth 100000 in
theorem kw_X4_clears__fieldLink_RX4_49_ActHouseModel_register_I_ : (.fieldLink RX4 49 "ActHouseModel" "register" "[I" : Cond) ∈ wsX4_clears := by decide +kernel
set_option maxRecDepth 100000 in
theorem kw_X4_clears__fieldLink_RX4_46_ActHouseModel_at_I_ : (.fieldLink RX4 46 "ActHouseModel" "at" "[I" : Cond) ∈ wsX4_clears := by decide +kernel
set_option maxRecDepth 100000 in
theorem kw_X4_clears__fieldLink_RX4_52_ActHouseModel_isHeld_Z_ : (.fieldLink RX4 52 "ActHouseModel" "isHeld" "[Z" : Cond) ∈ wsX4_clears := by decide +kernel
set_option maxRecDepth 100000 in
theorem kw_X4_clears__fieldLink_RX4_80_ActHouseModel_gives_I_ : (.fieldLink RX4 80 "ActHouseModel" "gives" "[I" : Cond) ∈ wsX4_clears := by decide +kernel
set_option maxRecDepth 100000 in
theorem kw_X4_clears__fieldLink_RX4_83_ActHouseModel_below_I_ : (.fieldLink RX4 83 "ActHouseModel" "below" "[I" : Cond) ∈ wsX4_clears := by decide +kernel
set_option maxRecDepth 100000 in
theorem kw_X4_clears__fieldLink_RX4_74_ActHouseModel_holds_I_ : (.fieldLink RX4 74 "ActHouseModel" "holds" "[I" : Cond) ∈ wsX4_clears := by decide +kernel
def f_X4_clears_28  : Nat → Int32 → Int32 → MS → Option (Int32 × MS)
  | 0, _, _, _ => none
  | k + 1, v1, v2, M => (if 8 ≤ v2 then (if 0 ≤ v1.toInt ∧ v1.toInt < 80 then (k_let (mA M 28 v1.toNatClampNeg (0 : Int32)) fun M4 => (k_let (mA M4 15 v1.toNatClampNeg (0 : Int32)) fun M5 => (k_let (mA M5 14 v1.toNatClampNeg (0 : Int32)) fun M6 => (k_let (mA M6 16 v1.toNatClampNeg (0 : Int32)) fun M7 => some ((0 : Int32), M7))))) else none) else (if 0 ≤ ((8 * v1) + v2).toInt ∧ ((8 * v1) + v2).toInt < 640 then (k_let (mA M 25 (((8 * v1) + v2).toNatClampNeg) (0 : Int32)) fun M9 => (k_let (mA M9 26 (((8 * v1) + v2).toNatClampNeg) (0 : Int32)) fun M10 => f_X4_clears_28  k v1 (v2 + 1) M10)) else none))
def f_X4_clears_2  : Nat → Int32 → Int32 → MS → Option (Int32 × MS)
  | 0, _, _, _ => none
  | k + 1, v1, v2, M => (if 24 ≤ v2 then f_X4_clears_28  200 v1 (0 : Int32) M else (if 0 ≤ ((24 * v1) + v2).toInt ∧ ((24 * v1) + v2).toInt < 1920 then (k_let (mA M 23 (((24 * v1) + v2).toNatClampNeg) (0 : Int32)) fun M12 => f_X4_clears_2  k v1 (v2 + 1) M12) else none))
def f_X4_clears (x1 : Int32) (M0 : MS) : Option (Int32 × MS) := f_X4_clears_2  200 x1 (0 : Int32) M0
set_option maxHeartbeats 4000000 in
set_option maxRecDepth 100000 in
theorem c_X4_clears {l : Launch} {D : va_G} {sz : Nat} {cI cZ : ClassId} {h : Nat} {ad : Nat → Nat} {M0 M' : MS} {x1 r' : Int32} (hf : f_X4_clears x1 M0 = some (r', M')) : Met l yX4_clears wsX4_clears ({ frames := 0, cells := 0, slots := 0, locals := 0 }) (va_Pc [.ref h, .int x1] (k_Pre D [(cI, .int), (cZ, .boolean)] (mW cI cZ h ad M0) sz)) (va_Qv (fun (u : va_W × List (ClassId × FieldType)) => u = (mW cI cZ h ad M', [(cI, .int), (cZ, .boolean)]) ∧ M'.2.2 = M0.2.2) (k_B D (va_A (mW cI cZ h ad M0) sz)) (va_A (mW cI cZ h ad M0) sz)) (0) (0) (va_A (mW cI cZ h ad M0) sz) := by
  refine Met.ofW (cc := cX4_clears) (maxL := 3) (ret := none) (by decide) rfl ?_
  intro p e s m args below meth c s₁ B hml hv
  obtain ⟨rfl, hsz, hP, hK, hD0⟩ := hv
  have hx := B.exec
  have hb := B.bytes
  have hr := B.returns
  have hts := atoms_spec (ws := wsX4_clears) B.pre
  have hown : s.vm.findClass RX4 = some m.cls := findClass_of_methodNamed B.named
  have hlocks := B.notSynchronized
  subst hsz
  have hD := hD0.self (sz := s.heap.size)
  generalize hAe : va_A (mW cI cZ h ad M0) s.heap.size = A at hD ⊢
  have hA : ∀ q : Nat, s.heap.size ≤ q → A q := fun q h => by rw [← hAe]; exact Or.inr h
  have hS : va_S A s.heap s.heap [] := va_S.rf
  have hl := lv_entry ([.ref h, .int x1]) (n := 3) (Nat.le_of_ble_eq_true rfl)
  rw [lg_entry_eq]
  generalize (lg_sl ([.ref h, .int x1]) ++ List.replicate (3 - (lg_sl ([.ref h, .int x1])).length) Slot.unset).toArray = ls at hl ⊢
  have hl : lv_has ls 3 [(0, .ref h), (1, .int x1)] := hl
  refine k_Q (fun Q hQ => ?_)
  have B28 : ∀  (k : Nat), ∀ (v1 : Int32) (v2 : Int32)  (M : MS)  (H : Heap) (locs : List Loc) (ls : Array Slot), f_X4_clears_28  k v1 v2 M = some (r', M') → M.2.2 = M0.2.2 → va_P D vwCl (mW cI cZ h ad M) H → va_D A (mW cI cZ h ad M) → va_S A s.heap H locs → lv_has ls 3 [(0, .ref h), (1, .int v1), (2, .int v2)] → W p l e (headSpec wsX4_clears ({ frames := 0, cells := 0, slots := 0, locals := 0 })).room s m ([.ref h, .int x1] : List Value).toArray below meth c H locs (0) (0) Q (F0 m 28 ls []) := by
    intro  k
    induction k with
    | zero =>
      intro v1 v2  M  H locs ls hq hg hP hD hS hl
      exact absurd hq (by rw [f_X4_clears_28]; exact k_non)
    | succ k ih =>
      intro v1 v2  M  H locs ls hq hg hP hD hS hl
      rw [f_X4_clears_28] at hq
      refine lv_iload_n hx hb dX4_clears_28 rfl (lv_at hl 2 rfl) ?_
      refine lv_bipush (v := 8) hx hb dX4_clears_29 (by decide) ?_
      refine lv_icmp_ge (tgt := 64) hx hb dX4_clears_31 (by decide) (fun c2 => ?_) (fun c2 => ?_)
      · skip
        rw [if_pos c2] at hq
        refine lv_aload_n hx hb dX4_clears_64 rfl (lv_at hl 0 rfl) ?_
        refine va_get (D := D) (ci := 4) (v := .ref (ad 28)) (C := RX4) (T := TX4) (N := 39) hx hb hts kin_X4_clears_X4 hown hK hP 0 rfl rfl 28 (by decide) (hts _ kw_X4_clears__fieldLink_RX4_89_ActHouseModel_queuedMany_I_) (fun _ h9 => h9) rfl dX4_clears_65 ?_
        refine lv_iload_n hx hb dX4_clears_68 rfl (lv_at hl 1 rfl) ?_
        refine lv_iconst (v := 0) hx hb dX4_clears_69 (by decide) ?_
        obtain ⟨b3, hq⟩ := k_if hq
        refine va_iast hx hb hK hP hD hS 27 0 (f := (M.2.1 28)) rfl rfl (x := 0) (k_in b3.1 b3.2) dX4_clears_70 (fun H locs hP hD hS => ?_)
        obtain ⟨M4, eM4, hg4, hq⟩ := k_lA hq
        rw [mW_A28, ← eM4] at hP hD
        have hP : va_P D vwCl (mW cI cZ h ad M4) _ := hP
        have hD : va_D A (mW cI cZ h ad M4) := hD
        refine lv_aload_n hx hb dX4_clears_71 rfl (lv_at hl 0 rfl) ?_
        refine va_get (D := D) (ci := 4) (v := .ref (ad 15)) (C := RX4) (T := TX4) (N := 39) hx hb hts kin_X4_clears_X4 hown hK hP 0 rfl rfl 15 (by decide) (hts _ kw_X4_clears__fieldLink_RX4_49_ActHouseModel_register_I_) (fun _ h9 => h9) rfl dX4_clears_72 ?_
        refine lv_iload_n hx hb dX4_clears_75 rfl (lv_at hl 1 rfl) ?_
        refine lv_iconst (v := 0) hx hb dX4_clears_76 (by decide) ?_
        refine va_iast hx hb hK hP hD hS 14 0 (f := (M4.2.1 15)) rfl rfl (x := 0) (k_in b3.1 b3.2) dX4_clears_77 (fun H locs hP hD hS => ?_)
        obtain ⟨M5, eM5, hg5, hq⟩ := k_lA hq
        rw [mW_A15, ← eM5] at hP hD
        have hP : va_P D vwCl (mW cI cZ h ad M5) _ := hP
        have hD : va_D A (mW cI cZ h ad M5) := hD
        refine lv_aload_n hx hb dX4_clears_78 rfl (lv_at hl 0 rfl) ?_
        refine va_get (D := D) (ci := 4) (v := .ref (ad 14)) (C := RX4) (T := TX4) (N := 39) hx hb hts kin_X4_clears_X4 hown hK hP 0 rfl rfl 14 (by decide) (hts _ kw_X4_clears__fieldLink_RX4_46_ActHouseModel_at_I_) (fun _ h9 => h9) rfl dX4_clears_79 ?_
        refine lv_iload_n hx hb dX4_clears_82 rfl (lv_at hl 1 rfl) ?_
        refine lv_iconst (v := 0) hx hb dX4_clears_83 (by decide) ?_
        refine va_iast hx hb hK hP hD hS 13 0 (f := (M5.2.1 14)) rfl rfl (x := 0) (k_in b3.1 b3.2) dX4_clears_84 (fun H locs hP hD hS => ?_)
        obtain ⟨M6, eM6, hg6, hq⟩ := k_lA hq
        rw [mW_A14, ← eM6] at hP hD
        have hP : va_P D vwCl (mW cI cZ h ad M6) _ := hP
        have hD : va_D A (mW cI cZ h ad M6) := hD
        refine lv_aload_n hx hb dX4_clears_85 rfl (lv_at hl 0 rfl) ?_
        refine va_get (D := D) (ci := 4) (v := .ref (ad 16)) (C := RX4) (T := TX4) (N := 39) hx hb hts kin_X4_clears_X4 hown hK hP 0 rfl rfl 16 (by decide) (hts _ kw_X4_clears__fieldLink_RX4_52_ActHouseModel_isHeld_Z_) (fun _ h9 => h9) rfl dX4_clears_86 ?_
        refine lv_iload_n hx hb dX4_clears_89 rfl (lv_at hl 1 rfl) ?_
        refine lv_iconst (v := 0) hx hb dX4_clears_90 (by decide) ?_
        refine va_zast hx hb hK hP hD hS 15 1 (f := (M6.2.1 16)) rfl rfl (x := 0) (k_in b3.1 b3.2) dX4_clears_91 (fun H locs hP hD hS => ?_)
        obtain ⟨M7, eM7, hg7, hq⟩ := k_lA hq
        rw [mW_A16, k_nb0, ← eM7] at hP hD
        have hP : va_P D vwCl (mW cI cZ h ad M7) _ := hP
        have hD : va_D A (mW cI cZ h ad M7) := hD
        obtain ⟨e2, e3⟩ := k_so hq
        subst hQ
        have hP : va_P D vwCl (mW cI cZ h ad M7) _ := hP
        have hD : va_D A (mW cI cZ h ad M7) := hD
        refine W.widen (k := 0) (n := 0) (by decide) (by decide) ?_
        have hgE := congrArg (fun X : MS => X.2.2) e3
        have hgE : M7.2.2 = M'.2.2 := hgE
        exact W.vret hx hb hr (fun t ht hW => ⟨⟨(mW cI cZ h ad M7, [(cI, .int), (cZ, .boolean)]), rfl, ⟨(congrArg (fun X : MS => ((mW cI cZ h ad X, [(cI, .int), (cZ, .boolean)]) : va_W × List (ClassId × FieldType))) e3), by omega⟩, ⟨by rw [ht]; exact hP, va_K.moved hW.alike hK, hD⟩⟩, hS.F ht⟩) hS.2.2 dX4_clears_92
      · skip
        rw [if_neg c2] at hq
        refine lv_aload_n hx hb dX4_clears_34 rfl (lv_at hl 0 rfl) ?_
        refine va_get (D := D) (ci := 4) (v := .ref (ad 25)) (C := RX4) (T := TX4) (N := 39) hx hb hts kin_X4_clears_X4 hown hK hP 0 rfl rfl 25 (by decide) (hts _ kw_X4_clears__fieldLink_RX4_80_ActHouseModel_gives_I_) (fun _ h9 => h9) rfl dX4_clears_35 ?_
        refine lv_bipush (v := 8) hx hb dX4_clears_38 (by decide) ?_
        refine lv_iload_n hx hb dX4_clears_40 rfl (lv_at hl 1 rfl) ?_
        refine lv_imul hx hb dX4_clears_41 ?_
        refine lv_iload_n hx hb dX4_clears_42 rfl (lv_at hl 2 rfl) ?_
        refine lv_iadd hx hb dX4_clears_43 ?_
        refine lv_iconst (v := 0) hx hb dX4_clears_44 (by decide) ?_
        obtain ⟨b8, hq⟩ := k_if hq
        refine va_iast hx hb hK hP hD hS 24 0 (f := (M.2.1 25)) rfl rfl (x := 0) (k_in b8.1 b8.2) dX4_clears_45 (fun H locs hP hD hS => ?_)
        obtain ⟨M9, eM9, hg9, hq⟩ := k_lA hq
        rw [mW_A25, ← eM9] at hP hD
        have hP : va_P D vwCl (mW cI cZ h ad M9) _ := hP
        have hD : va_D A (mW cI cZ h ad M9) := hD
        refine lv_aload_n hx hb dX4_clears_46 rfl (lv_at hl 0 rfl) ?_
        refine va_get (D := D) (ci := 4) (v := .ref (ad 26)) (C := RX4) (T := TX4) (N := 39) hx hb hts kin_X4_clears_X4 hown hK hP 0 rfl rfl 26 (by decide) (hts _ kw_X4_clears__fieldLink_RX4_83_ActHouseModel_below_I_) (fun _ h9 => h9) rfl dX4_clears_47 ?_
        refine lv_bipush (v := 8) hx hb dX4_clears_50 (by decide) ?_
        refine lv_iload_n hx hb dX4_clears_52 rfl (lv_at hl 1 rfl) ?_
        refine lv_imul hx hb dX4_clears_53 ?_
        refine lv_iload_n hx hb dX4_clears_54 rfl (lv_at hl 2 rfl) ?_
        refine lv_iadd hx hb dX4_clears_55 ?_
        refine lv_iconst (v := 0) hx hb dX4_clears_56 (by decide) ?_
        refine va_iast hx hb hK hP hD hS 25 0 (f := (M9.2.1 26)) rfl rfl (x := 0) (k_in b8.1 b8.2) dX4_clears_57 (fun H locs hP hD hS => ?_)
        obtain ⟨M10, eM10, hg10, hq⟩ := k_lA hq
        rw [mW_A26, ← eM10] at hP hD
        have hP : va_P D vwCl (mW cI cZ h ad M10) _ := hP
        have hD : va_D A (mW cI cZ h ad M10) := hD
        refine lv_iinc (v := v2 + 1) (lv' := [(2, .int (v2 + 1)), (0, .ref h), (1, .int v1)]) hx hb dX4_clears_58 hl (k := 2) rfl (by rfl) (by decide) rfl (fun ls hl => ?_)
        refine lv_goto (tgt := 28) hx hb dX4_clears_61 (by decide) ?_
        exact ih v1 (v2 + 1) M10  _ _ _ hq (by show M10.2.2 = M0.2.2; omega) hP hD hS (lv_sub hl [1, 2, 0] rfl)
  have B2 : ∀  (k : Nat), ∀ (v1 : Int32) (v2 : Int32)  (M : MS)  (H : Heap) (locs : List Loc) (ls : Array Slot), f_X4_clears_2  k v1 v2 M = some (r', M') → M.2.2 = M0.2.2 → va_P D vwCl (mW cI cZ h ad M) H → va_D A (mW cI cZ h ad M) → va_S A s.heap H locs → lv_has ls 3 [(0, .ref h), (1, .int v1), (2, .int v2)] → W p l e (headSpec wsX4_clears ({ frames := 0, cells := 0, slots := 0, locals := 0 })).room s m ([.ref h, .int x1] : List Value).toArray below meth c H locs (0) (0) Q (F0 m 2 ls []) := by
    intro  k
    induction k with
    | zero =>
      intro v1 v2  M  H locs ls hq hg hP hD hS hl
      exact absurd hq (by rw [f_X4_clears_2]; exact k_non)
    | succ k ih =>
      intro v1 v2  M  H locs ls hq hg hP hD hS hl
      rw [f_X4_clears_2] at hq
      refine lv_iload_n hx hb dX4_clears_2 rfl (lv_at hl 2 rfl) ?_
      refine lv_bipush (v := 24) hx hb dX4_clears_3 (by decide) ?_
      refine lv_icmp_ge (tgt := 26) hx hb dX4_clears_5 (by decide) (fun c1 => ?_) (fun c1 => ?_)
      · skip
        rw [if_pos c1] at hq
        refine lv_iconst (v := 0) hx hb dX4_clears_26 (by decide) ?_
        refine lv_istore_n (lv' := [(2, .int 0), (0, .ref h), (1, .int v1)]) hx hb dX4_clears_27 rfl hl (by decide) rfl (fun ls hl => ?_)
        exact B28  200 v1 (0 : Int32) M  _ _ _ hq (by show M.2.2 = M0.2.2; omega) hP hD hS (lv_sub hl [1, 2, 0] rfl)
      · skip
        rw [if_neg c1] at hq
        refine lv_aload_n hx hb dX4_clears_8 rfl (lv_at hl 0 rfl) ?_
        refine va_get (D := D) (ci := 4) (v := .ref (ad 23)) (C := RX4) (T := TX4) (N := 39) hx hb hts kin_X4_clears_X4 hown hK hP 0 rfl rfl 23 (by decide) (hts _ kw_X4_clears__fieldLink_RX4_74_ActHouseModel_holds_I_) (fun _ h9 => h9) rfl dX4_clears_9 ?_
        refine lv_bipush (v := 24) hx hb dX4_clears_12 (by decide) ?_
        refine lv_iload_n hx hb dX4_clears_14 rfl (lv_at hl 1 rfl) ?_
        refine lv_imul hx hb dX4_clears_15 ?_
        refine lv_iload_n hx hb dX4_clears_16 rfl (lv_at hl 2 rfl) ?_
        refine lv_iadd hx hb dX4_clears_17 ?_
        refine lv_iconst (v := 0) hx hb dX4_clears_18 (by decide) ?_
        obtain ⟨b11, hq⟩ := k_if hq
        refine va_iast hx hb hK hP hD hS 22 0 (f := (M.2.1 23)) rfl rfl (x := 0) (k_in b11.1 b11.2) dX4_clears_19 (fun H locs hP hD hS => ?_)
        obtain ⟨M12, eM12, hg12, hq⟩ := k_lA hq
        rw [mW_A23, ← eM12] at hP hD
        have hP : va_P D vwCl (mW cI cZ h ad M12) _ := hP
        have hD : va_D A (mW cI cZ h ad M12) := hD
        refine lv_iinc (v := v2 + 1) (lv' := [(2, .int (v2 + 1)), (0, .ref h), (1, .int v1)]) hx hb dX4_clears_20 hl (k := 2) rfl (by rfl) (by decide) rfl (fun ls hl => ?_)
        refine lv_goto (tgt := 2) hx hb dX4_clears_23 (by decide) ?_
        exact ih v1 (v2 + 1) M12  _ _ _ hq (by show M12.2.2 = M0.2.2; omega) hP hD hS (lv_sub hl [1, 2, 0] rfl)
  have hq := hf
  rw [f_X4_clears] at hq
  refine lv_iconst (v := 0) hx hb dX4_clears_0 (by decide) ?_
  refine lv_istore_n (lv' := [(2, .int 0), (0, .ref h), (1, .int x1)]) hx hb dX4_clears_1 rfl hl (by decide) rfl (fun ls hl => ?_)
  exact B2  200 x1 (0 : Int32) M0  _ _ _ hq (by show M0.2.2 = M0.2.2; omega) hP hD hS (lv_sub hl [1, 2, 0] rfl)
set_option maxRecDepth 100000 in
theorem kw_X4_lets__fieldLink_RX4_52_ActHouseModel_isHeld_Z_ : (.fieldLink RX4 52 "ActHouseModel" "isHeld" "[Z" : Cond) ∈ wsX4_lets := by decide +kernel
set_option maxRecDepth 100000 in
theorem kin_X4_lets_X4 : ∀ w ∈ u_ws RX4 TX4 39, w ∈ wsX4_lets := by decide +kernel
set_option maxRecDepth 100000 in
theorem kw_X4_lets__fieldLink_RX4_74_ActHouseModel_holds_I_ : (.fieldLink RX4 74 "ActHouseModel" "holds" "[I" : Cond) ∈ wsX4_lets := by decide +kernel
def f_X4_lets_38 (K2 : Int32 → Int32 → MS → Option (Int32 × MS)) (v1 : Int32) (v2 : Int32) (s0 : Int32) (s1 : Int32)  (M : MS) : Option (Int32 × MS) := (if 0 ≤ s1.toInt ∧ s1.toInt < 1920 then (k_let (mA M 23 s1.toNatClampNeg s0) fun M7 => K2 v1 (v2 + 1) M7) else none)
def f_X4_lets_2  : Nat → Int32 → Int32 → MS → Option (Int32 × MS)
  | 0, _, _, _ => none
  | k + 1, v1, v2, M => (if 24 ≤ v2 then (if 0 ≤ v1.toInt ∧ v1.toInt < 80 then (k_let (mA M 16 v1.toNatClampNeg (0 : Int32)) fun M3 => some ((0 : Int32), M3)) else none) else (if 0 ≤ ((24 * v1) + v2).toInt ∧ ((24 * v1) + v2).toInt < 1920 then (if ((M.2.1 23) ((24 * v1) + v2).toNatClampNeg) = 2 then f_X4_lets_38 (fun (v1 : Int32) (v2 : Int32) (M : MS) => f_X4_lets_2  k v1 v2 M) v1 v2 (3 : Int32) ((24 * v1) + v2) M else f_X4_lets_38 (fun (v1 : Int32) (v2 : Int32) (M : MS) => f_X4_lets_2  k v1 v2 M) v1 v2 (0 : Int32) ((24 * v1) + v2) M) else none))
def f_X4_lets (x1 : Int32) (M0 : MS) : Option (Int32 × MS) := f_X4_lets_2  200 x1 (0 : Int32) M0
set_option maxHeartbeats 4000000 in
set_option maxRecDepth 100000 in
theorem c_X4_lets {l : Launch} {D : va_G} {sz : Nat} {cI cZ : ClassId} {h : Nat} {ad : Nat → Nat} {M0 M' : MS} {x1 r' : Int32} (hf : f_X4_lets x1 M0 = some (r', M')) : Met l yX4_lets wsX4_lets ({ frames := 0, cells := 0, slots := 0, locals := 0 }) (va_Pc [.ref h, .int x1] (k_Pre D [(cI, .int), (cZ, .boolean)] (mW cI cZ h ad M0) sz)) (va_Qv (fun (u : va_W × List (ClassId × FieldType)) => u = (mW cI cZ h ad M', [(cI, .int), (cZ, .boolean)]) ∧ M'.2.2 = M0.2.2) (k_B D (va_A (mW cI cZ h ad M0) sz)) (va_A (mW cI cZ h ad M0) sz)) (0) (0) (va_A (mW cI cZ h ad M0) sz) := by
  refine Met.ofW (cc := cX4_lets) (maxL := 3) (ret := none) (by decide) rfl ?_
  intro p e s m args below meth c s₁ B hml hv
  obtain ⟨rfl, hsz, hP, hK, hD0⟩ := hv
  have hx := B.exec
  have hb := B.bytes
  have hr := B.returns
  have hts := atoms_spec (ws := wsX4_lets) B.pre
  have hown : s.vm.findClass RX4 = some m.cls := findClass_of_methodNamed B.named
  have hlocks := B.notSynchronized
  subst hsz
  have hD := hD0.self (sz := s.heap.size)
  generalize hAe : va_A (mW cI cZ h ad M0) s.heap.size = A at hD ⊢
  have hA : ∀ q : Nat, s.heap.size ≤ q → A q := fun q h => by rw [← hAe]; exact Or.inr h
  have hS : va_S A s.heap s.heap [] := va_S.rf
  have hl := lv_entry ([.ref h, .int x1]) (n := 3) (Nat.le_of_ble_eq_true rfl)
  rw [lg_entry_eq]
  generalize (lg_sl ([.ref h, .int x1]) ++ List.replicate (3 - (lg_sl ([.ref h, .int x1])).length) Slot.unset).toArray = ls at hl ⊢
  have hl : lv_has ls 3 [(0, .ref h), (1, .int x1)] := hl
  refine k_Q (fun Q hQ => ?_)
  have B38 : ∀ (K2 : Int32 → Int32 → MS → Option (Int32 × MS)) (hK2 : ∀ (v1 : Int32) (v2 : Int32)  (M : MS)  (H : Heap) (locs : List Loc) (ls : Array Slot), K2 v1 v2 M = some (r', M') → M.2.2 = M0.2.2 → va_P D vwCl (mW cI cZ h ad M) H → va_D A (mW cI cZ h ad M) → va_S A s.heap H locs → lv_has ls 3 [(0, .ref h), (1, .int v1), (2, .int v2)] → W p l e (headSpec wsX4_lets ({ frames := 0, cells := 0, slots := 0, locals := 0 })).room s m ([.ref h, .int x1] : List Value).toArray below meth c H locs (0) (0) Q (F0 m 2 ls [])), ∀ (v1 : Int32) (v2 : Int32) (s0 : Int32) (s1 : Int32)  (M : MS)  (H : Heap) (locs : List Loc) (ls : Array Slot), f_X4_lets_38 K2 v1 v2 s0 s1 M = some (r', M') → M.2.2 = M0.2.2 → va_P D vwCl (mW cI cZ h ad M) H → va_D A (mW cI cZ h ad M) → va_S A s.heap H locs → lv_has ls 3 [(0, .ref h), (1, .int v1), (2, .int v2)] → W p l e (headSpec wsX4_lets ({ frames := 0, cells := 0, slots := 0, locals := 0 })).room s m ([.ref h, .int x1] : List Value).toArray below meth c H locs (0) (0) Q (F0 m 38 ls [.int s0, .int s1, .ref (ad 23)]) := by
    intro K2 hK2
    intro v1 v2 s0 s1  M  H locs ls hq hg hP hD hS hl
    rw [f_X4_lets_38] at hq
    obtain ⟨b6, hq⟩ := k_if hq
    refine va_iast hx hb hK hP hD hS 22 0 (f := (M.2.1 23)) rfl rfl (x := s0) (k_in b6.1 b6.2) dX4_lets_38 (fun H locs hP hD hS => ?_)
    obtain ⟨M7, eM7, hg7, hq⟩ := k_lA hq
    rw [mW_A23, ← eM7] at hP hD
    have hP : va_P D vwCl (mW cI cZ h ad M7) _ := hP
    have hD : va_D A (mW cI cZ h ad M7) := hD
    refine lv_iinc (v := v2 + 1) (lv' := [(2, .int (v2 + 1)), (0, .ref h), (1, .int v1)]) hx hb dX4_lets_39 hl (k := 2) rfl (by rfl) (by decide) rfl (fun ls hl => ?_)
    refine lv_goto (tgt := 2) hx hb dX4_lets_42 (by decide) ?_
    exact hK2 v1 (v2 + 1) M7  _ _ _ hq (by show M7.2.2 = M0.2.2; omega) hP hD hS (lv_sub hl [1, 2, 0] rfl)
  have B2 : ∀  (k : Nat), ∀ (v1 : Int32) (v2 : Int32)  (M : MS)  (H : Heap) (locs : List Loc) (ls : Array Slot), f_X4_lets_2  k v1 v2 M = some (r', M') → M.2.2 = M0.2.2 → va_P D vwCl (mW cI cZ h ad M) H → va_D A (mW cI cZ h ad M) → va_S A s.heap H locs → lv_has ls 3 [(0, .ref h), (1, .int v1), (2, .int v2)] → W p l e (headSpec wsX4_lets ({ frames := 0, cells := 0, slots := 0, locals := 0 })).room s m ([.ref h, .int x1] : List Value).toArray below meth c H locs (0) (0) Q (F0 m 2 ls []) := by
    intro  k
    induction k with
    | zero =>
      intro v1 v2  M  H locs ls hq hg hP hD hS hl
      exact absurd hq (by rw [f_X4_lets_2]; exact k_non)
    | succ k ih =>
      intro v1 v2  M  H locs ls hq hg hP hD hS hl
      rw [f_X4_lets_2] at hq
      refine lv_iload_n hx hb dX4_lets_2 rfl (lv_at hl 2 rfl) ?_
      refine lv_bipush (v := 24) hx hb dX4_lets_3 (by decide) ?_
      refine lv_icmp_ge (tgt := 45) hx hb dX4_lets_5 (by decide) (fun c1 => ?_) (fun c1 => ?_)
      · skip
        rw [if_pos c1] at hq
        refine lv_aload_n hx hb dX4_lets_45 rfl (lv_at hl 0 rfl) ?_
        refine va_get (D := D) (ci := 4) (v := .ref (ad 16)) (C := RX4) (T := TX4) (N := 39) hx hb hts kin_X4_lets_X4 hown hK hP 0 rfl rfl 16 (by decide) (hts _ kw_X4_lets__fieldLink_RX4_52_ActHouseModel_isHeld_Z_) (fun _ h9 => h9) rfl dX4_lets_46 ?_
        refine lv_iload_n hx hb dX4_lets_49 rfl (lv_at hl 1 rfl) ?_
        refine lv_iconst (v := 0) hx hb dX4_lets_50 (by decide) ?_
        obtain ⟨b2, hq⟩ := k_if hq
        refine va_zast hx hb hK hP hD hS 15 1 (f := (M.2.1 16)) rfl rfl (x := 0) (k_in b2.1 b2.2) dX4_lets_51 (fun H locs hP hD hS => ?_)
        obtain ⟨M3, eM3, hg3, hq⟩ := k_lA hq
        rw [mW_A16, k_nb0, ← eM3] at hP hD
        have hP : va_P D vwCl (mW cI cZ h ad M3) _ := hP
        have hD : va_D A (mW cI cZ h ad M3) := hD
        obtain ⟨e2, e3⟩ := k_so hq
        subst hQ
        have hP : va_P D vwCl (mW cI cZ h ad M3) _ := hP
        have hD : va_D A (mW cI cZ h ad M3) := hD
        refine W.widen (k := 0) (n := 0) (by decide) (by decide) ?_
        have hgE := congrArg (fun X : MS => X.2.2) e3
        have hgE : M3.2.2 = M'.2.2 := hgE
        exact W.vret hx hb hr (fun t ht hW => ⟨⟨(mW cI cZ h ad M3, [(cI, .int), (cZ, .boolean)]), rfl, ⟨(congrArg (fun X : MS => ((mW cI cZ h ad X, [(cI, .int), (cZ, .boolean)]) : va_W × List (ClassId × FieldType))) e3), by omega⟩, ⟨by rw [ht]; exact hP, va_K.moved hW.alike hK, hD⟩⟩, hS.F ht⟩) hS.2.2 dX4_lets_52
      · skip
        rw [if_neg c1] at hq
        refine lv_aload_n hx hb dX4_lets_8 rfl (lv_at hl 0 rfl) ?_
        refine va_get (D := D) (ci := 4) (v := .ref (ad 23)) (C := RX4) (T := TX4) (N := 39) hx hb hts kin_X4_lets_X4 hown hK hP 0 rfl rfl 23 (by decide) (hts _ kw_X4_lets__fieldLink_RX4_74_ActHouseModel_holds_I_) (fun _ h9 => h9) rfl dX4_lets_9 ?_
        refine lv_bipush (v := 24) hx hb dX4_lets_12 (by decide) ?_
        refine lv_iload_n hx hb dX4_lets_14 rfl (lv_at hl 1 rfl) ?_
        refine lv_imul hx hb dX4_lets_15 ?_
        refine lv_iload_n hx hb dX4_lets_16 rfl (lv_at hl 2 rfl) ?_
        refine lv_iadd hx hb dX4_lets_17 ?_
        refine lv_aload_n hx hb dX4_lets_18 rfl (lv_at hl 0 rfl) ?_
        refine va_get (D := D) (ci := 4) (v := .ref (ad 23)) (C := RX4) (T := TX4) (N := 39) hx hb hts kin_X4_lets_X4 hown hK hP 0 rfl rfl 23 (by decide) (hts _ kw_X4_lets__fieldLink_RX4_74_ActHouseModel_holds_I_) (fun _ h9 => h9) rfl dX4_lets_19 ?_
        refine lv_bipush (v := 24) hx hb dX4_lets_22 (by decide) ?_
        refine lv_iload_n hx hb dX4_lets_24 rfl (lv_at hl 1 rfl) ?_
        refine lv_imul hx hb dX4_lets_25 ?_
        refine lv_iload_n hx hb dX4_lets_26 rfl (lv_at hl 2 rfl) ?_
        refine lv_iadd hx hb dX4_lets_27 ?_
        obtain ⟨b4, hq⟩ := k_if hq
        refine va_iald hx hb hK hP 22 0 (f := (M.2.1 23)) rfl rfl (k_in b4.1 b4.2) dX4_lets_28 ?_
        refine lv_iconst (v := 2) hx hb dX4_lets_29 (by decide) ?_
        refine lv_icmp_ne (tgt := 37) hx hb dX4_lets_30 (by decide) (fun c5 => ?_) (fun c5 => ?_)
        · skip
          rw [if_neg c5] at hq
          refine lv_iconst (v := 0) hx hb dX4_lets_37 (by decide) ?_
          exact B38 (fun (v1 : Int32) (v2 : Int32) (M : MS) => f_X4_lets_2  k v1 v2 M) ih v1 v2 (0 : Int32) ((24 * v1) + v2) M  _ _ _ hq (by show M.2.2 = M0.2.2; omega) hP hD hS (lv_sub hl [0, 1, 2] rfl)
        · skip
          rw [if_pos c5] at hq
          refine lv_iconst (v := 3) hx hb dX4_lets_33 (by decide) ?_
          refine lv_goto (tgt := 38) hx hb dX4_lets_34 (by decide) ?_
          exact B38 (fun (v1 : Int32) (v2 : Int32) (M : MS) => f_X4_lets_2  k v1 v2 M) ih v1 v2 (3 : Int32) ((24 * v1) + v2) M  _ _ _ hq (by show M.2.2 = M0.2.2; omega) hP hD hS (lv_sub hl [0, 1, 2] rfl)
  have hq := hf
  rw [f_X4_lets] at hq
  refine lv_iconst (v := 0) hx hb dX4_lets_0 (by decide) ?_
  refine lv_istore_n (lv' := [(2, .int 0), (0, .ref h), (1, .int x1)]) hx hb dX4_lets_1 rfl hl (by decide) rfl (fun ls hl => ?_)
  exact B2  200 x1 (0 : Int32) M0  _ _ _ hq (by show M0.2.2 = M0.2.2; omega) hP hD hS (lv_sub hl [1, 2, 0] rfl)
set_option maxRecDepth 100000 in
theorem kw_X4_gets__fieldLink_RX4_13_ActHouseModel_counters_I_ : (.fieldLink RX4 13 "ActHouseModel" "counters" "[I" : Cond) ∈ wsX4_gets := by decide +kernel
set_option maxRecDepth 100000 in
theorem kin_X4_gets_X4 : ∀ w ∈ u_ws RX4 TX4 39, w ∈ wsX4_gets := by decide +kernel
set_option maxRecDepth 100000 in
theorem kw_X4_gets__fieldLink_RX4_80_ActHouseModel_gives_I_ : (.fieldLink RX4 80 "ActHouseModel" "gives" "[I" : Cond) ∈ wsX4_gets := by decide +kernel
set_option maxRecDepth 100000 in
theorem kw_X4_gets__fieldLink_RX4_74_ActHouseModel_holds_I_ : (.fieldLink RX4 74 "ActHouseModel" "holds" "[I" : Cond) ∈ wsX4_gets := by decide +kernel
set_option maxRecDepth 100000 in
theorem kw_X4_gets__fieldLink_RX4_9_ActHouseModel_cells_I_ : (.fieldLink RX4 9 "ActHouseModel" "cells" "[I" : Cond) ∈ wsX4_gets := by decide +kernel
set_option maxRecDepth 100000 in
theorem kw_X4_gets__fieldLink_RX4_77_ActHouseModel_writes_I_ : (.fieldLink RX4 77 "ActHouseModel" "writes" "[I" : Cond) ∈ wsX4_gets := by decide +kernel
def f_X4_gets_48  : Nat → Int32 → Int32 → MS → Option (Int32 × MS)
  | 0, _, _, _ => none
  | k + 1, v1, v2, M => (if 8 ≤ v2 then some ((0 : Int32), M) else (if 0 ≤ v2.toInt ∧ v2.toInt < 8 then (if 0 ≤ ((8 * v1) + v2).toInt ∧ ((8 * v1) + v2).toInt < 640 then (k_let (mA M 2 v2.toNatClampNeg (((M.2.1 2) v2.toNatClampNeg) + ((M.2.1 25) ((8 * v1) + v2).toNatClampNeg))) fun M5 => f_X4_gets_48  k v1 (v2 + 1) M5) else none) else none))
def f_X4_gets_40 (K2 : Int32 → Int32 → MS → Option (Int32 × MS)) (v1 : Int32) (v2 : Int32)  (M : MS) : Option (Int32 × MS) := K2 v1 (v2 + 1) M
def f_X4_gets_2  : Nat → Int32 → Int32 → MS → Option (Int32 × MS)
  | 0, _, _, _ => none
  | k + 1, v1, v2, M => (if 24 ≤ v2 then f_X4_gets_48  200 v1 (0 : Int32) M else (if 0 ≤ ((24 * v1) + v2).toInt ∧ ((24 * v1) + v2).toInt < 1920 then (if ((M.2.1 23) ((24 * v1) + v2).toNatClampNeg) = 3 then (if 0 ≤ v2.toInt ∧ v2.toInt < 24 then (k_let (mA M 1 v2.toNatClampNeg ((M.2.1 24) ((24 * v1) + v2).toNatClampNeg)) fun M9 => f_X4_gets_40 (fun (v1 : Int32) (v2 : Int32) (M : MS) => f_X4_gets_2  k v1 v2 M) v1 v2 M9) else none) else f_X4_gets_40 (fun (v1 : Int32) (v2 : Int32) (M : MS) => f_X4_gets_2  k v1 v2 M) v1 v2 M) else none))
def f_X4_gets (x1 : Int32) (M0 : MS) : Option (Int32 × MS) := f_X4_gets_2  200 x1 (0 : Int32) M0
set_option maxHeartbeats 4000000 in
set_option maxRecDepth 100000 in
theorem c_X4_gets {l : Launch} {D : va_G} {sz : Nat} {cI cZ : ClassId} {h : Nat} {ad : Nat → Nat} {M0 M' : MS} {x1 r' : Int32} (hf : f_X4_gets x1 M0 = some (r', M')) : Met l yX4_gets wsX4_gets ({ frames := 0, cells := 0, slots := 0, locals := 0 }) (va_Pc [.ref h, .int x1] (k_Pre D [(cI, .int), (cZ, .boolean)] (mW cI cZ h ad M0) sz)) (va_Qv (fun (u : va_W × List (ClassId × FieldType)) => u = (mW cI cZ h ad M', [(cI, .int), (cZ, .boolean)]) ∧ M'.2.2 = M0.2.2) (k_B D (va_A (mW cI cZ h ad M0) sz)) (va_A (mW cI cZ h ad M0) sz)) (0) (0) (va_A (mW cI cZ h ad M0) sz) := by
  refine Met.ofW (cc := cX4_gets) (maxL := 3) (ret := none) (by decide) rfl ?_
  intro p e s m args below meth c s₁ B hml hv
  obtain ⟨rfl, hsz, hP, hK, hD0⟩ := hv
  have hx := B.exec
  have hb := B.bytes
  have hr := B.returns
  have hts := atoms_spec (ws := wsX4_gets) B.pre
  have hown : s.vm.findClass RX4 = some m.cls := findClass_of_methodNamed B.named
  have hlocks := B.notSynchronized
  subst hsz
  have hD := hD0.self (sz := s.heap.size)
  generalize hAe : va_A (mW cI cZ h ad M0) s.heap.size = A at hD ⊢
  have hA : ∀ q : Nat, s.heap.size ≤ q → A q := fun q h => by rw [← hAe]; exact Or.inr h
  have hS : va_S A s.heap s.heap [] := va_S.rf
  have hl := lv_entry ([.ref h, .int x1]) (n := 3) (Nat.le_of_ble_eq_true rfl)
  rw [lg_entry_eq]
  generalize (lg_sl ([.ref h, .int x1]) ++ List.replicate (3 - (lg_sl ([.ref h, .int x1])).length) Slot.unset).toArray = ls at hl ⊢
  have hl : lv_has ls 3 [(0, .ref h), (1, .int x1)] := hl
  refine k_Q (fun Q hQ => ?_)
  have B48 : ∀  (k : Nat), ∀ (v1 : Int32) (v2 : Int32)  (M : MS)  (H : Heap) (locs : List Loc) (ls : Array Slot), f_X4_gets_48  k v1 v2 M = some (r', M') → M.2.2 = M0.2.2 → va_P D vwCl (mW cI cZ h ad M) H → va_D A (mW cI cZ h ad M) → va_S A s.heap H locs → lv_has ls 3 [(0, .ref h), (1, .int v1), (2, .int v2)] → W p l e (headSpec wsX4_gets ({ frames := 0, cells := 0, slots := 0, locals := 0 })).room s m ([.ref h, .int x1] : List Value).toArray below meth c H locs (0) (0) Q (F0 m 48 ls []) := by
    intro  k
    induction k with
    | zero =>
      intro v1 v2  M  H locs ls hq hg hP hD hS hl
      exact absurd hq (by rw [f_X4_gets_48]; exact k_non)
    | succ k ih =>
      intro v1 v2  M  H locs ls hq hg hP hD hS hl
      rw [f_X4_gets_48] at hq
      refine lv_iload_n hx hb dX4_gets_48 rfl (lv_at hl 2 rfl) ?_
      refine lv_bipush (v := 8) hx hb dX4_gets_49 (by decide) ?_
      refine lv_icmp_ge (tgt := 80) hx hb dX4_gets_51 (by decide) (fun c2 => ?_) (fun c2 => ?_)
      · skip
        rw [if_pos c2] at hq
        obtain ⟨e2, e3⟩ := k_so hq
        subst hQ
        have hP : va_P D vwCl (mW cI cZ h ad M) _ := hP
        have hD : va_D A (mW cI cZ h ad M) := hD
        refine W.widen (k := 0) (n := 0) (by decide) (by decide) ?_
        have hgE := congrArg (fun X : MS => X.2.2) e3
        have hgE : M.2.2 = M'.2.2 := hgE
        exact W.vret hx hb hr (fun t ht hW => ⟨⟨(mW cI cZ h ad M, [(cI, .int), (cZ, .boolean)]), rfl, ⟨(congrArg (fun X : MS => ((mW cI cZ h ad X, [(cI, .int), (cZ, .boolean)]) : va_W × List (ClassId × FieldType))) e3), by omega⟩, ⟨by rw [ht]; exact hP, va_K.moved hW.alike hK, hD⟩⟩, hS.F ht⟩) hS.2.2 dX4_gets_80
      · skip
        rw [if_neg c2] at hq
        refine lv_aload_n hx hb dX4_gets_54 rfl (lv_at hl 0 rfl) ?_
        refine va_get (D := D) (ci := 4) (v := .ref (ad 2)) (C := RX4) (T := TX4) (N := 39) hx hb hts kin_X4_gets_X4 hown hK hP 0 rfl rfl 2 (by decide) (hts _ kw_X4_gets__fieldLink_RX4_13_ActHouseModel_counters_I_) (fun _ h9 => h9) rfl dX4_gets_55 ?_
        refine lv_iload_n hx hb dX4_gets_58 rfl (lv_at hl 2 rfl) ?_
        refine lv_dup2_11 hx hb dX4_gets_59 rfl rfl ?_
        obtain ⟨b3, hq⟩ := k_if hq
        refine va_iald hx hb hK hP 2 0 (f := (M.2.1 2)) rfl rfl (k_in b3.1 b3.2) dX4_gets_60 ?_
        refine lv_aload_n hx hb dX4_gets_61 rfl (lv_at hl 0 rfl) ?_
        refine va_get (D := D) (ci := 4) (v := .ref (ad 25)) (C := RX4) (T := TX4) (N := 39) hx hb hts kin_X4_gets_X4 hown hK hP 0 rfl rfl 25 (by decide) (hts _ kw_X4_gets__fieldLink_RX4_80_ActHouseModel_gives_I_) (fun _ h9 => h9) rfl dX4_gets_62 ?_
        refine lv_bipush (v := 8) hx hb dX4_gets_65 (by decide) ?_
        refine lv_iload_n hx hb dX4_gets_67 rfl (lv_at hl 1 rfl) ?_
        refine lv_imul hx hb dX4_gets_68 ?_
        refine lv_iload_n hx hb dX4_gets_69 rfl (lv_at hl 2 rfl) ?_
        refine lv_iadd hx hb dX4_gets_70 ?_
        obtain ⟨b4, hq⟩ := k_if hq
        refine va_iald hx hb hK hP 24 0 (f := (M.2.1 25)) rfl rfl (k_in b4.1 b4.2) dX4_gets_71 ?_
        refine lv_iadd hx hb dX4_gets_72 ?_
        refine va_iast hx hb hK hP hD hS 2 0 (f := (M.2.1 2)) rfl rfl (x := (((M.2.1 2) v2.toNatClampNeg) + ((M.2.1 25) ((8 * v1) + v2).toNatClampNeg))) (k_in b3.1 b3.2) dX4_gets_73 (fun H locs hP hD hS => ?_)
        obtain ⟨M5, eM5, hg5, hq⟩ := k_lA hq
        rw [mW_A2, ← eM5] at hP hD
        have hP : va_P D vwCl (mW cI cZ h ad M5) _ := hP
        have hD : va_D A (mW cI cZ h ad M5) := hD
        refine lv_iinc (v := v2 + 1) (lv' := [(2, .int (v2 + 1)), (0, .ref h), (1, .int v1)]) hx hb dX4_gets_74 hl (k := 2) rfl (by rfl) (by decide) rfl (fun ls hl => ?_)
        refine lv_goto (tgt := 48) hx hb dX4_gets_77 (by decide) ?_
        exact ih v1 (v2 + 1) M5  _ _ _ hq (by show M5.2.2 = M0.2.2; omega) hP hD hS (lv_sub hl [1, 2, 0] rfl)
  have B40 : ∀ (K2 : Int32 → Int32 → MS → Option (Int32 × MS)) (hK2 : ∀ (v1 : Int32) (v2 : Int32)  (M : MS)  (H : Heap) (locs : List Loc) (ls : Array Slot), K2 v1 v2 M = some (r', M') → M.2.2 = M0.2.2 → va_P D vwCl (mW cI cZ h ad M) H → va_D A (mW cI cZ h ad M) → va_S A s.heap H locs → lv_has ls 3 [(0, .ref h), (1, .int v1), (2, .int v2)] → W p l e (headSpec wsX4_gets ({ frames := 0, cells := 0, slots := 0, locals := 0 })).room s m ([.ref h, .int x1] : List Value).toArray below meth c H locs (0) (0) Q (F0 m 2 ls [])), ∀ (v1 : Int32) (v2 : Int32)  (M : MS)  (H : Heap) (locs : List Loc) (ls : Array Slot), f_X4_gets_40 K2 v1 v2 M = some (r', M') → M.2.2 = M0.2.2 → va_P D vwCl (mW cI cZ h ad M) H → va_D A (mW cI cZ h ad M) → va_S A s.heap H locs → lv_has ls 3 [(0, .ref h), (1, .int v1), (2, .int v2)] → W p l e (headSpec wsX4_gets ({ frames := 0, cells := 0, slots := 0, locals := 0 })).room s m ([.ref h, .int x1] : List Value).toArray below meth c H locs (0) (0) Q (F0 m 40 ls []) := by
    intro K2 hK2
    intro v1 v2  M  H locs ls hq hg hP hD hS hl
    rw [f_X4_gets_40] at hq
    refine lv_iinc (v := v2 + 1) (lv' := [(2, .int (v2 + 1)), (0, .ref h), (1, .int v1)]) hx hb dX4_gets_40 hl (k := 2) rfl (by rfl) (by decide) rfl (fun ls hl => ?_)
    refine lv_goto (tgt := 2) hx hb dX4_gets_43 (by decide) ?_
    exact hK2 v1 (v2 + 1) M  _ _ _ hq (by show M.2.2 = M0.2.2; omega) hP hD hS (lv_sub hl [1, 2, 0] rfl)
  have B2 : ∀  (k : Nat), ∀ (v1 : Int32) (v2 : Int32)  (M : MS)  (H : Heap) (locs : List Loc) (ls : Array Slot), f_X4_gets_2  k v1 v2 M = some (r', M') → M.2.2 = M0.2.2 → va_P D vwCl (mW cI cZ h ad M) H → va_D A (mW cI cZ h ad M) → va_S A s.heap H locs → lv_has ls 3 [(0, .ref h), (1, .int v1), (2, .int v2)] → W p l e (headSpec wsX4_gets ({ frames := 0, cells := 0, slots := 0, locals := 0 })).room s m ([.ref h, .int x1] : List Value).toArray below meth c H locs (0) (0) Q (F0 m 2 ls []) := by
    intro  k
    induction k with
    | zero =>
      intro v1 v2  M  H locs ls hq hg hP hD hS hl
      exact absurd hq (by rw [f_X4_gets_2]; exact k_non)
    | succ k ih =>
      intro v1 v2  M  H locs ls hq hg hP hD hS hl
      rw [f_X4_gets_2] at hq
      refine lv_iload_n hx hb dX4_gets_2 rfl (lv_at hl 2 rfl) ?_
      refine lv_bipush (v := 24) hx hb dX4_gets_3 (by decide) ?_
      refine lv_icmp_ge (tgt := 46) hx hb dX4_gets_5 (by decide) (fun c1 => ?_) (fun c1 => ?_)
      · skip
        rw [if_pos c1] at hq
        refine lv_iconst (v := 0) hx hb dX4_gets_46 (by decide) ?_
        refine lv_istore_n (lv' := [(2, .int 0), (0, .ref h), (1, .int v1)]) hx hb dX4_gets_47 rfl hl (by decide) rfl (fun ls hl => ?_)
        exact B48  200 v1 (0 : Int32) M  _ _ _ hq (by show M.2.2 = M0.2.2; omega) hP hD hS (lv_sub hl [1, 2, 0] rfl)
      · skip
        rw [if_neg c1] at hq
        refine lv_aload_n hx hb dX4_gets_8 rfl (lv_at hl 0 rfl) ?_
        refine va_get (D := D) (ci := 4) (v := .ref (ad 23)) (C := RX4) (T := TX4) (N := 39) hx hb hts kin_X4_gets_X4 hown hK hP 0 rfl rfl 23 (by decide) (hts _ kw_X4_gets__fieldLink_RX4_74_ActHouseModel_holds_I_) (fun _ h9 => h9) rfl dX4_gets_9 ?_
        refine lv_bipush (v := 24) hx hb dX4_gets_12 (by decide) ?_
        refine lv_iload_n hx hb dX4_gets_14 rfl (lv_at hl 1 rfl) ?_
        refine lv_imul hx hb dX4_gets_15 ?_
        refine lv_iload_n hx hb dX4_gets_16 rfl (lv_at hl 2 rfl) ?_
        refine lv_iadd hx hb dX4_gets_17 ?_
        obtain ⟨b6, hq⟩ := k_if hq
        refine va_iald hx hb hK hP 22 0 (f := (M.2.1 23)) rfl rfl (k_in b6.1 b6.2) dX4_gets_18 ?_
        refine lv_iconst (v := 3) hx hb dX4_gets_19 (by decide) ?_
        refine lv_icmp_ne (tgt := 40) hx hb dX4_gets_20 (by decide) (fun c7 => ?_) (fun c7 => ?_)
        · skip
          rw [if_neg c7] at hq
          exact B40 (fun (v1 : Int32) (v2 : Int32) (M : MS) => f_X4_gets_2  k v1 v2 M) ih v1 v2 M  _ _ _ hq (by show M.2.2 = M0.2.2; omega) hP hD hS (lv_sub hl [0, 1, 2] rfl)
        · skip
          rw [if_pos c7] at hq
          refine lv_aload_n hx hb dX4_gets_23 rfl (lv_at hl 0 rfl) ?_
          refine va_get (D := D) (ci := 4) (v := .ref (ad 1)) (C := RX4) (T := TX4) (N := 39) hx hb hts kin_X4_gets_X4 hown hK hP 0 rfl rfl 1 (by decide) (hts _ kw_X4_gets__fieldLink_RX4_9_ActHouseModel_cells_I_) (fun _ h9 => h9) rfl dX4_gets_24 ?_
          refine lv_iload_n hx hb dX4_gets_27 rfl (lv_at hl 2 rfl) ?_
          refine lv_aload_n hx hb dX4_gets_28 rfl (lv_at hl 0 rfl) ?_
          refine va_get (D := D) (ci := 4) (v := .ref (ad 24)) (C := RX4) (T := TX4) (N := 39) hx hb hts kin_X4_gets_X4 hown hK hP 0 rfl rfl 24 (by decide) (hts _ kw_X4_gets__fieldLink_RX4_77_ActHouseModel_writes_I_) (fun _ h9 => h9) rfl dX4_gets_29 ?_
          refine lv_bipush (v := 24) hx hb dX4_gets_32 (by decide) ?_
          refine lv_iload_n hx hb dX4_gets_34 rfl (lv_at hl 1 rfl) ?_
          refine lv_imul hx hb dX4_gets_35 ?_
          refine lv_iload_n hx hb dX4_gets_36 rfl (lv_at hl 2 rfl) ?_
          refine lv_iadd hx hb dX4_gets_37 ?_
          refine va_iald hx hb hK hP 23 0 (f := (M.2.1 24)) rfl rfl (k_in b6.1 b6.2) dX4_gets_38 ?_
          obtain ⟨b8, hq⟩ := k_if hq
          refine va_iast hx hb hK hP hD hS 1 0 (f := (M.2.1 1)) rfl rfl (x := ((M.2.1 24) ((24 * v1) + v2).toNatClampNeg)) (k_in b8.1 b8.2) dX4_gets_39 (fun H locs hP hD hS => ?_)
          obtain ⟨M9, eM9, hg9, hq⟩ := k_lA hq
          rw [mW_A1, ← eM9] at hP hD
          have hP : va_P D vwCl (mW cI cZ h ad M9) _ := hP
          have hD : va_D A (mW cI cZ h ad M9) := hD
          exact B40 (fun (v1 : Int32) (v2 : Int32) (M : MS) => f_X4_gets_2  k v1 v2 M) ih v1 v2 M9  _ _ _ hq (by show M9.2.2 = M0.2.2; omega) hP hD hS (lv_sub hl [0, 1, 2] rfl)
  have hq := hf
  rw [f_X4_gets] at hq
  refine lv_iconst (v := 0) hx hb dX4_gets_0 (by decide) ?_
  refine lv_istore_n (lv' := [(2, .int 0), (0, .ref h), (1, .int x1)]) hx hb dX4_gets_1 rfl hl (by decide) rfl (fun ls hl => ?_)
  exact B2  200 x1 (0 : Int32) M0  _ _ _ hq (by show M0.2.2 = M0.2.2; omega) hP hD hS (lv_sub hl [1, 2, 0] rfl)
set_option maxRecDepth 100000 in
theorem kw_X4_keeps__fieldLink_RX4_127_ActHouseModel_entries_I_ : (.fieldLink RX4 127 "ActHouseModel" "entries" "I" : Cond) ∈ wsX4_keeps := by decide +kernel
set_option maxRecDepth 100000 in
theorem kin_X4_keeps_X4 : ∀ w ∈ u_ws RX4 TX4 39, w ∈ wsX4_keeps := by decide +kernel
set_option maxRecDepth 100000 in
theorem kw_X4_keeps__fieldLink_RX4_190_ActHouseModel_kept_I_ : (.fieldLink RX4 190 "ActHouseModel" "kept" "I" : Cond) ∈ wsX4_keeps := by decide +kernel
set_option maxRecDepth 100000 in
theorem kw_X4_keeps__fieldLink_RX4_111_ActHouseModel_acts_I_ : (.fieldLink RX4 111 "ActHouseModel" "acts" "I" : Cond) ∈ wsX4_keeps := by decide +kernel
set_option maxRecDepth 100000 in
theorem kw_X4_keeps__fieldLink_RX4_37_ActHouseModel_state_I_ : (.fieldLink RX4 37 "ActHouseModel" "state" "[I" : Cond) ∈ wsX4_keeps := by decide +kernel
def f_X4_keeps_35 (K10 : Int32 → MS → Option (Int32 × MS)) (v1 : Int32)  (M : MS) : Option (Int32 × MS) := K10 (v1 + 1) M
def f_X4_keeps_10  : Nat → Int32 → MS → Option (Int32 × MS)
  | 0, _, _ => none
  | k + 1, v1, M => (if (M.1 7) ≤ v1 then some ((0 : Int32), M) else (if 0 ≤ v1.toInt ∧ v1.toInt < 80 then (if ((M.2.1 11) v1.toNatClampNeg) = 2 then (k_let (mA M 11 v1.toNatClampNeg (3 : Int32)) fun M5 => f_X4_keeps_35 (fun (v1 : Int32) (M : MS) => f_X4_keeps_10  k v1 M) v1 M5) else f_X4_keeps_35 (fun (v1 : Int32) (M : MS) => f_X4_keeps_10  k v1 M) v1 M) else none))
def f_X4_keeps  (M0 : MS) : Option (Int32 × MS) := (k_let (mI M0 32 (M0.1 31)) fun M1 => f_X4_keeps_10  200 (0 : Int32) M1)
set_option maxHeartbeats 4000000 in
set_option maxRecDepth 100000 in
theorem c_X4_keeps {l : Launch} {D : va_G} {sz : Nat} {cI cZ : ClassId} {h : Nat} {ad : Nat → Nat} {M0 M' : MS} { r' : Int32} (hf : f_X4_keeps  M0 = some (r', M')) : Met l yX4_keeps wsX4_keeps ({ frames := 0, cells := 0, slots := 0, locals := 0 }) (va_Pc [.ref h] (k_Pre D [(cI, .int), (cZ, .boolean)] (mW cI cZ h ad M0) sz)) (va_Qv (fun (u : va_W × List (ClassId × FieldType)) => u = (mW cI cZ h ad M', [(cI, .int), (cZ, .boolean)]) ∧ M'.2.2 = M0.2.2) (k_B D (va_A (mW cI cZ h ad M0) sz)) (va_A (mW cI cZ h ad M0) sz)) (0) (0) (va_A (mW cI cZ h ad M0) sz) := by
  refine Met.ofW (cc := cX4_keeps) (maxL := 2) (ret := none) (by decide) rfl ?_
  intro p e s m args below meth c s₁ B hml hv
  obtain ⟨rfl, hsz, hP, hK, hD0⟩ := hv
  have hx := B.exec
  have hb := B.bytes
  have hr := B.returns
  have hts := atoms_spec (ws := wsX4_keeps) B.pre
  have hown : s.vm.findClass RX4 = some m.cls := findClass_of_methodNamed B.named
  have hlocks := B.notSynchronized
  subst hsz
  have hD := hD0.self (sz := s.heap.size)
  generalize hAe : va_A (mW cI cZ h ad M0) s.heap.size = A at hD ⊢
  have hA : ∀ q : Nat, s.heap.size ≤ q → A q := fun q h => by rw [← hAe]; exact Or.inr h
  have hS : va_S A s.heap s.heap [] := va_S.rf
  have hl := lv_entry ([.ref h]) (n := 2) (Nat.le_of_ble_eq_true rfl)
  rw [lg_entry_eq]
  generalize (lg_sl ([.ref h]) ++ List.replicate (2 - (lg_sl ([.ref h])).length) Slot.unset).toArray = ls at hl ⊢
  have hl : lv_has ls 2 [(0, .ref h)] := hl
  refine k_Q (fun Q hQ => ?_)
  have B35 : ∀ (K10 : Int32 → MS → Option (Int32 × MS)) (hK10 : ∀ (v1 : Int32)  (M : MS)  (H : Heap) (locs : List Loc) (ls : Array Slot), K10 v1 M = some (r', M') → M.2.2 = M0.2.2 → va_P D vwCl (mW cI cZ h ad M) H → va_D A (mW cI cZ h ad M) → va_S A s.heap H locs → lv_has ls 2 [(0, .ref h), (1, .int v1)] → W p l e (headSpec wsX4_keeps ({ frames := 0, cells := 0, slots := 0, locals := 0 })).room s m ([.ref h] : List Value).toArray below meth c H locs (0) (0) Q (F0 m 10 ls [])), ∀ (v1 : Int32)  (M : MS)  (H : Heap) (locs : List Loc) (ls : Array Slot), f_X4_keeps_35 K10 v1 M = some (r', M') → M.2.2 = M0.2.2 → va_P D vwCl (mW cI cZ h ad M) H → va_D A (mW cI cZ h ad M) → va_S A s.heap H locs → lv_has ls 2 [(0, .ref h), (1, .int v1)] → W p l e (headSpec wsX4_keeps ({ frames := 0, cells := 0, slots := 0, locals := 0 })).room s m ([.ref h] : List Value).toArray below meth c H locs (0) (0) Q (F0 m 35 ls []) := by
    intro K10 hK10
    intro v1  M  H locs ls hq hg hP hD hS hl
    rw [f_X4_keeps_35] at hq
    refine lv_iinc (v := v1 + 1) (lv' := [(1, .int (v1 + 1)), (0, .ref h)]) hx hb dX4_keeps_35 hl (k := 1) rfl (by rfl) (by decide) rfl (fun ls hl => ?_)
    refine lv_goto (tgt := 10) hx hb dX4_keeps_38 (by decide) ?_
    exact hK10 (v1 + 1) M  _ _ _ hq (by show M.2.2 = M0.2.2; omega) hP hD hS (lv_sub hl [1, 0] rfl)
  have B10 : ∀  (k : Nat), ∀ (v1 : Int32)  (M : MS)  (H : Heap) (locs : List Loc) (ls : Array Slot), f_X4_keeps_10  k v1 M = some (r', M') → M.2.2 = M0.2.2 → va_P D vwCl (mW cI cZ h ad M) H → va_D A (mW cI cZ h ad M) → va_S A s.heap H locs → lv_has ls 2 [(0, .ref h), (1, .int v1)] → W p l e (headSpec wsX4_keeps ({ frames := 0, cells := 0, slots := 0, locals := 0 })).room s m ([.ref h] : List Value).toArray below meth c H locs (0) (0) Q (F0 m 10 ls []) := by
    intro  k
    induction k with
    | zero =>
      intro v1  M  H locs ls hq hg hP hD hS hl
      exact absurd hq (by rw [f_X4_keeps_10]; exact k_non)
    | succ k ih =>
      intro v1  M  H locs ls hq hg hP hD hS hl
      rw [f_X4_keeps_10] at hq
      refine lv_iload_n hx hb dX4_keeps_10 rfl (lv_at hl 1 rfl) ?_
      refine lv_aload_n hx hb dX4_keeps_11 rfl (lv_at hl 0 rfl) ?_
      refine va_get (D := D) (ci := 4) (v := .int (M.1 7)) (C := RX4) (T := TX4) (N := 39) hx hb hts kin_X4_keeps_X4 hown hK hP 0 rfl rfl 7 (by decide) (hts _ kw_X4_keeps__fieldLink_RX4_111_ActHouseModel_acts_I_) (fun _ h9 => h9) rfl dX4_keeps_12 ?_
      refine lv_icmp_ge (tgt := 41) hx hb dX4_keeps_15 (by decide) (fun c2 => ?_) (fun c2 => ?_)
      · skip
        rw [if_pos c2] at hq
        obtain ⟨e2, e3⟩ := k_so hq
        subst hQ
        have hP : va_P D vwCl (mW cI cZ h ad M) _ := hP
        have hD : va_D A (mW cI cZ h ad M) := hD
        refine W.widen (k := 0) (n := 0) (by decide) (by decide) ?_
        have hgE := congrArg (fun X : MS => X.2.2) e3
        have hgE : M.2.2 = M'.2.2 := hgE
        exact W.vret hx hb hr (fun t ht hW => ⟨⟨(mW cI cZ h ad M, [(cI, .int), (cZ, .boolean)]), rfl, ⟨(congrArg (fun X : MS => ((mW cI cZ h ad X, [(cI, .int), (cZ, .boolean)]) : va_W × List (ClassId × FieldType))) e3), by omega⟩, ⟨by rw [ht]; exact hP, va_K.moved hW.alike hK, hD⟩⟩, hS.F ht⟩) hS.2.2 dX4_keeps_41
      · skip
        rw [if_neg c2] at hq
        refine lv_aload_n hx hb dX4_keeps_18 rfl (lv_at hl 0 rfl) ?_
        refine va_get (D := D) (ci := 4) (v := .ref (ad 11)) (C := RX4) (T := TX4) (N := 39) hx hb hts kin_X4_keeps_X4 hown hK hP 0 rfl rfl 11 (by decide) (hts _ kw_X4_keeps__fieldLink_RX4_37_ActHouseModel_state_I_) (fun _ h9 => h9) rfl dX4_keeps_19 ?_
        refine lv_iload_n hx hb dX4_keeps_22 rfl (lv_at hl 1 rfl) ?_
        obtain ⟨b3, hq⟩ := k_if hq
        refine va_iald hx hb hK hP 10 0 (f := (M.2.1 11)) rfl rfl (k_in b3.1 b3.2) dX4_keeps_23 ?_
        refine lv_iconst (v := 2) hx hb dX4_keeps_24 (by decide) ?_
        refine lv_icmp_ne (tgt := 35) hx hb dX4_keeps_25 (by decide) (fun c4 => ?_) (fun c4 => ?_)
        · skip
          rw [if_neg c4] at hq
          exact B35 (fun (v1 : Int32) (M : MS) => f_X4_keeps_10  k v1 M) ih v1 M  _ _ _ hq (by show M.2.2 = M0.2.2; omega) hP hD hS (lv_sub hl [0, 1] rfl)
        · skip
          rw [if_pos c4] at hq
          refine lv_aload_n hx hb dX4_keeps_28 rfl (lv_at hl 0 rfl) ?_
          refine va_get (D := D) (ci := 4) (v := .ref (ad 11)) (C := RX4) (T := TX4) (N := 39) hx hb hts kin_X4_keeps_X4 hown hK hP 0 rfl rfl 11 (by decide) (hts _ kw_X4_keeps__fieldLink_RX4_37_ActHouseModel_state_I_) (fun _ h9 => h9) rfl dX4_keeps_29 ?_
          refine lv_iload_n hx hb dX4_keeps_32 rfl (lv_at hl 1 rfl) ?_
          refine lv_iconst (v := 3) hx hb dX4_keeps_33 (by decide) ?_
          refine va_iast hx hb hK hP hD hS 10 0 (f := (M.2.1 11)) rfl rfl (x := 3) (k_in b3.1 b3.2) dX4_keeps_34 (fun H locs hP hD hS => ?_)
          obtain ⟨M5, eM5, hg5, hq⟩ := k_lA hq
          rw [mW_A11, ← eM5] at hP hD
          have hP : va_P D vwCl (mW cI cZ h ad M5) _ := hP
          have hD : va_D A (mW cI cZ h ad M5) := hD
          exact B35 (fun (v1 : Int32) (M : MS) => f_X4_keeps_10  k v1 M) ih v1 M5  _ _ _ hq (by show M5.2.2 = M0.2.2; omega) hP hD hS (lv_sub hl [0, 1] rfl)
  have hq := hf
  rw [f_X4_keeps] at hq
  refine lv_aload_n hx hb dX4_keeps_0 rfl (lv_at hl 0 rfl) ?_
  refine lv_aload_n hx hb dX4_keeps_1 rfl (lv_at hl 0 rfl) ?_
  refine va_get (D := D) (ci := 4) (v := .int (M0.1 31)) (C := RX4) (T := TX4) (N := 39) hx hb hts kin_X4_keeps_X4 hown hK hP 0 rfl rfl 31 (by decide) (hts _ kw_X4_keeps__fieldLink_RX4_127_ActHouseModel_entries_I_) (fun _ h9 => h9) rfl dX4_keeps_2 ?_
  refine va_put (D := D) (ci := 4) (v := .int (M0.1 31)) (ty := .int) (C := RX4) (T := TX4) (N := 39) hx hb hts kin_X4_keeps_X4 tyX4 tyX4_ok nmX4 hown hK hP hD hS 0 (fs := mF ad M0) rfl rfl 32 (by decide) (hts _ kw_X4_keeps__fieldLink_RX4_190_ActHouseModel_kept_I_) (fun _ h9 => h9) rfl (by decide +kernel) rfl rfl (Nat.le_of_ble_eq_true rfl) dX4_keeps_5 (fun H locs hP hD hS => ?_)
  obtain ⟨M1, eM1, hg1, hq⟩ := k_lI hq
  rw [mW_I32, ← eM1] at hP hD
  have hP : va_P D vwCl (mW cI cZ h ad M1) _ := hP
  have hD : va_D A (mW cI cZ h ad M1) := hD
  refine lv_iconst (v := 0) hx hb dX4_keeps_8 (by decide) ?_
  refine lv_istore_n (lv' := [(1, .int 0), (0, .ref h)]) hx hb dX4_keeps_9 rfl hl (by decide) rfl (fun ls hl => ?_)
  exact B10  200 (0 : Int32) M1  _ _ _ hq (by show M1.2.2 = M0.2.2; omega) hP hD hS (lv_sub hl [1, 0] rfl)
set_option maxRecDepth 100000 in
theorem kw_X4_countOf__fieldLink_RX4_111_ActHouseModel_acts_I_ : (.fieldLink RX4 111 "ActHouseModel" "acts" "I" : Cond) ∈ wsX4_countOf := by decide +kernel
set_option maxRecDepth 100000 in
theorem kin_X4_countOf_X4 : ∀ w ∈ u_ws RX4 TX4 39, w ∈ wsX4_countOf := by decide +kernel
set_option maxRecDepth 100000 in
theorem kw_X4_countOf__fieldLink_RX4_37_ActHouseModel_state_I_ : (.fieldLink RX4 37 "ActHouseModel" "state" "[I" : Cond) ∈ wsX4_countOf := by decide +kernel
def f_X4_countOf_28 (K4 : Int32 → Int32 → Int32 → MS → Option (Int32 × MS)) (v1 : Int32) (v3 : Int32) (s0 : Int32) (s1 : Int32)  (M : MS) : Option (Int32 × MS) := K4 v1 (s1 + s0) (v3 + 1) M
def f_X4_countOf_4  : Nat → Int32 → Int32 → Int32 → MS → Option (Int32 × MS)
  | 0, _, _, _, _ => none
  | k + 1, v1, v2, v3, M => (if (M.1 7) ≤ v3 then some (v2, M) else (if 0 ≤ v3.toInt ∧ v3.toInt < 80 then (if ((M.2.1 11) v3.toNatClampNeg) = v1 then f_X4_countOf_28 (fun (v1 : Int32) (v2 : Int32) (v3 : Int32) (M : MS) => f_X4_countOf_4  k v1 v2 v3 M) v1 v3 (1 : Int32) v2 M else f_X4_countOf_28 (fun (v1 : Int32) (v2 : Int32) (v3 : Int32) (M : MS) => f_X4_countOf_4  k v1 v2 v3 M) v1 v3 (0 : Int32) v2 M) else none))
def f_X4_countOf (x1 : Int32) (M0 : MS) : Option (Int32 × MS) := f_X4_countOf_4  200 x1 (0 : Int32) (0 : Int32) M0
set_option maxHeartbeats 4000000 in
set_option maxRecDepth 100000 in
theorem c_X4_countOf {l : Launch} {D : va_G} {sz : Nat} {cI cZ : ClassId} {h : Nat} {ad : Nat → Nat} {M0 M' : MS} {x1 r' : Int32} (hf : f_X4_countOf x1 M0 = some (r', M')) : Met l yX4_countOf wsX4_countOf ({ frames := 0, cells := 0, slots := 0, locals := 0 }) (va_Pc [.ref h, .int x1] (k_Pre D [(cI, .int), (cZ, .boolean)] (mW cI cZ h ad M0) sz)) (va_Qi (fun (r0 : Int32) (u : va_W × List (ClassId × FieldType)) => r0 = r' ∧ u = (mW cI cZ h ad M', [(cI, .int), (cZ, .boolean)]) ∧ M'.2.2 = M0.2.2) (k_B D (va_A (mW cI cZ h ad M0) sz)) (va_A (mW cI cZ h ad M0) sz)) (0) (0) (va_A (mW cI cZ h ad M0) sz) := by
  refine Met.ofW (cc := cX4_countOf) (maxL := 4) (ret := (some .int)) (by decide) rfl ?_
  intro p e s m args below meth c s₁ B hml hv
  obtain ⟨rfl, hsz, hP, hK, hD0⟩ := hv
  have hx := B.exec
  have hb := B.bytes
  have hr := B.returns
  have hts := atoms_spec (ws := wsX4_countOf) B.pre
  have hown : s.vm.findClass RX4 = some m.cls := findClass_of_methodNamed B.named
  have hlocks := B.notSynchronized
  subst hsz
  have hD := hD0.self (sz := s.heap.size)
  generalize hAe : va_A (mW cI cZ h ad M0) s.heap.size = A at hD ⊢
  have hA : ∀ q : Nat, s.heap.size ≤ q → A q := fun q h => by rw [← hAe]; exact Or.inr h
  have hS : va_S A s.heap s.heap [] := va_S.rf
  have hl := lv_entry ([.ref h, .int x1]) (n := 4) (Nat.le_of_ble_eq_true rfl)
  rw [lg_entry_eq]
  generalize (lg_sl ([.ref h, .int x1]) ++ List.replicate (4 - (lg_sl ([.ref h, .int x1])).length) Slot.unset).toArray = ls at hl ⊢
  have hl : lv_has ls 4 [(0, .ref h), (1, .int x1)] := hl
  refine k_Q (fun Q hQ => ?_)
  have B28 : ∀ (K4 : Int32 → Int32 → Int32 → MS → Option (Int32 × MS)) (hK4 : ∀ (v1 : Int32) (v2 : Int32) (v3 : Int32)  (M : MS)  (H : Heap) (locs : List Loc) (ls : Array Slot), K4 v1 v2 v3 M = some (r', M') → M.2.2 = M0.2.2 → va_P D vwCl (mW cI cZ h ad M) H → va_D A (mW cI cZ h ad M) → va_S A s.heap H locs → lv_has ls 4 [(0, .ref h), (1, .int v1), (2, .int v2), (3, .int v3)] → W p l e (headSpec wsX4_countOf ({ frames := 0, cells := 0, slots := 0, locals := 0 })).room s m ([.ref h, .int x1] : List Value).toArray below meth c H locs (0) (0) Q (F0 m 4 ls [])), ∀ (v1 : Int32) (v3 : Int32) (s0 : Int32) (s1 : Int32)  (M : MS)  (H : Heap) (locs : List Loc) (ls : Array Slot), f_X4_countOf_28 K4 v1 v3 s0 s1 M = some (r', M') → M.2.2 = M0.2.2 → va_P D vwCl (mW cI cZ h ad M) H → va_D A (mW cI cZ h ad M) → va_S A s.heap H locs → lv_has ls 4 [(0, .ref h), (1, .int v1), (3, .int v3)] → W p l e (headSpec wsX4_countOf ({ frames := 0, cells := 0, slots := 0, locals := 0 })).room s m ([.ref h, .int x1] : List Value).toArray below meth c H locs (0) (0) Q (F0 m 28 ls [.int s0, .int s1]) := by
    intro K4 hK4
    intro v1 v3 s0 s1  M  H locs ls hq hg hP hD hS hl
    rw [f_X4_countOf_28] at hq
    refine lv_iadd hx hb dX4_countOf_28 ?_
    refine lv_istore_n (lv' := [(2, .int (s1 + s0)), (0, .ref h), (1, .int v1), (3, .int v3)]) hx hb dX4_countOf_29 rfl hl (by decide) rfl (fun ls hl => ?_)
    refine lv_iinc (v := v3 + 1) (lv' := [(3, .int (v3 + 1)), (2, .int (s1 + s0)), (0, .ref h), (1, .int v1)]) hx hb dX4_countOf_30 hl (k := 3) rfl (by rfl) (by decide) rfl (fun ls hl => ?_)
    refine lv_goto (tgt := 4) hx hb dX4_countOf_33 (by decide) ?_
    exact hK4 v1 (s1 + s0) (v3 + 1) M  _ _ _ hq (by show M.2.2 = M0.2.2; omega) hP hD hS (lv_sub hl [2, 3, 1, 0] rfl)
  have B4 : ∀  (k : Nat), ∀ (v1 : Int32) (v2 : Int32) (v3 : Int32)  (M : MS)  (H : Heap) (locs : List Loc) (ls : Array Slot), f_X4_countOf_4  k v1 v2 v3 M = some (r', M') → M.2.2 = M0.2.2 → va_P D vwCl (mW cI cZ h ad M) H → va_D A (mW cI cZ h ad M) → va_S A s.heap H locs → lv_has ls 4 [(0, .ref h), (1, .int v1), (2, .int v2), (3, .int v3)] → W p l e (headSpec wsX4_countOf ({ frames := 0, cells := 0, slots := 0, locals := 0 })).room s m ([.ref h, .int x1] : List Value).toArray below meth c H locs (0) (0) Q (F0 m 4 ls []) := by
    intro  k
    induction k with
    | zero =>
      intro v1 v2 v3  M  H locs ls hq hg hP hD hS hl
      exact absurd hq (by rw [f_X4_countOf_4]; exact k_non)
    | succ k ih =>
      intro v1 v2 v3  M  H locs ls hq hg hP hD hS hl
      rw [f_X4_countOf_4] at hq
      refine lv_iload_n hx hb dX4_countOf_4 rfl (lv_at hl 3 rfl) ?_
      refine lv_aload_n hx hb dX4_countOf_5 rfl (lv_at hl 0 rfl) ?_
      refine va_get (D := D) (ci := 4) (v := .int (M.1 7)) (C := RX4) (T := TX4) (N := 39) hx hb hts kin_X4_countOf_X4 hown hK hP 0 rfl rfl 7 (by decide) (hts _ kw_X4_countOf__fieldLink_RX4_111_ActHouseModel_acts_I_) (fun _ h9 => h9) rfl dX4_countOf_6 ?_
      refine lv_icmp_ge (tgt := 36) hx hb dX4_countOf_9 (by decide) (fun c1 => ?_) (fun c1 => ?_)
      · skip
        rw [if_pos c1] at hq
        refine lv_iload_n hx hb dX4_countOf_36 rfl (lv_at hl 2 rfl) ?_
        obtain ⟨e2, e3⟩ := k_so hq
        subst hQ
        have hP : va_P D vwCl (mW cI cZ h ad M) _ := hP
        have hD : va_D A (mW cI cZ h ad M) := hD
        refine W.widen (k := 0) (n := 0) (by decide) (by decide) ?_
        have hgE := congrArg (fun X : MS => X.2.2) e3
        have hgE : M.2.2 = M'.2.2 := hgE
        exact W.iret (v := v2) hx hb hr (fun t ht hW => ⟨⟨v2, (mW cI cZ h ad M, [(cI, .int), (cZ, .boolean)]), rfl, ⟨e2, (congrArg (fun X : MS => ((mW cI cZ h ad X, [(cI, .int), (cZ, .boolean)]) : va_W × List (ClassId × FieldType))) e3), by omega⟩, ⟨by rw [ht]; exact hP, va_K.moved hW.alike hK, hD⟩⟩, hS.F ht⟩) hS.2.2 dX4_countOf_37
      · skip
        rw [if_neg c1] at hq
        refine lv_iload_n hx hb dX4_countOf_12 rfl (lv_at hl 2 rfl) ?_
        refine lv_aload_n hx hb dX4_countOf_13 rfl (lv_at hl 0 rfl) ?_
        refine va_get (D := D) (ci := 4) (v := .ref (ad 11)) (C := RX4) (T := TX4) (N := 39) hx hb hts kin_X4_countOf_X4 hown hK hP 0 rfl rfl 11 (by decide) (hts _ kw_X4_countOf__fieldLink_RX4_37_ActHouseModel_state_I_) (fun _ h9 => h9) rfl dX4_countOf_14 ?_
        refine lv_iload_n hx hb dX4_countOf_17 rfl (lv_at hl 3 rfl) ?_
        obtain ⟨b2, hq⟩ := k_if hq
        refine va_iald hx hb hK hP 10 0 (f := (M.2.1 11)) rfl rfl (k_in b2.1 b2.2) dX4_countOf_18 ?_
        refine lv_iload_n hx hb dX4_countOf_19 rfl (lv_at hl 1 rfl) ?_
        refine lv_icmp_ne (tgt := 27) hx hb dX4_countOf_20 (by decide) (fun c3 => ?_) (fun c3 => ?_)
        · skip
          rw [if_neg c3] at hq
          refine lv_iconst (v := 0) hx hb dX4_countOf_27 (by decide) ?_
          exact B28 (fun (v1 : Int32) (v2 : Int32) (v3 : Int32) (M : MS) => f_X4_countOf_4  k v1 v2 v3 M) ih v1 v3 (0 : Int32) v2 M  _ _ _ hq (by show M.2.2 = M0.2.2; omega) hP hD hS (lv_sub hl [0, 1, 3] rfl)
        · skip
          rw [if_pos c3] at hq
          refine lv_iconst (v := 1) hx hb dX4_countOf_23 (by decide) ?_
          refine lv_goto (tgt := 28) hx hb dX4_countOf_24 (by decide) ?_
          exact B28 (fun (v1 : Int32) (v2 : Int32) (v3 : Int32) (M : MS) => f_X4_countOf_4  k v1 v2 v3 M) ih v1 v3 (1 : Int32) v2 M  _ _ _ hq (by show M.2.2 = M0.2.2; omega) hP hD hS (lv_sub hl [0, 1, 3] rfl)
  have hq := hf
  rw [f_X4_countOf] at hq
  refine lv_iconst (v := 0) hx hb dX4_countOf_0 (by decide) ?_
  refine lv_istore_n (lv' := [(2, .int 0), (0, .ref h), (1, .int x1)]) hx hb dX4_countOf_1 rfl hl (by decide) rfl (fun ls hl => ?_)
  refine lv_iconst (v := 0) hx hb dX4_countOf_2 (by decide) ?_
  refine lv_istore_n (lv' := [(3, .int 0), (2, .int 0), (0, .ref h), (1, .int x1)]) hx hb dX4_countOf_3 rfl hl (by decide) rfl (fun ls hl => ?_)
  exact B4  200 x1 (0 : Int32) (0 : Int32) M0  _ _ _ hq (by show M0.2.2 = M0.2.2; omega) hP hD hS (lv_sub hl [2, 3, 1, 0] rfl)
set_option maxRecDepth 100000 in
theorem kw_X4_newAct__fieldLink_RX4_111_ActHouseModel_acts_I_ : (.fieldLink RX4 111 "ActHouseModel" "acts" "I" : Cond) ∈ wsX4_newAct := by decide +kernel
set_option maxRecDepth 100000 in
theorem kin_X4_newAct_X4 : ∀ w ∈ u_ws RX4 TX4 39, w ∈ wsX4_newAct := by decide +kernel
set_option maxRecDepth 100000 in
theorem kw_X4_newAct__fieldLink_RX4_28_ActHouseModel_program_I_ : (.fieldLink RX4 28 "ActHouseModel" "program" "[I" : Cond) ∈ wsX4_newAct := by decide +kernel
set_option maxRecDepth 100000 in
theorem kw_X4_newAct__fieldLink_RX4_31_ActHouseModel_kind_I_ : (.fieldLink RX4 31 "ActHouseModel" "kind" "[I" : Cond) ∈ wsX4_newAct := by decide +kernel
set_option maxRecDepth 100000 in
theorem kw_X4_newAct__fieldLink_RX4_34_ActHouseModel_rank_I_ : (.fieldLink RX4 34 "ActHouseModel" "rank" "[I" : Cond) ∈ wsX4_newAct := by decide +kernel
set_option maxRecDepth 100000 in
theorem kw_X4_newAct__fieldLink_RX4_62_ActHouseModel_by_I_ : (.fieldLink RX4 62 "ActHouseModel" "by" "[I" : Cond) ∈ wsX4_newAct := by decide +kernel
set_option maxRecDepth 100000 in
theorem kw_X4_newAct__fieldLink_RX4_56_ActHouseModel_doneIn_I_ : (.fieldLink RX4 56 "ActHouseModel" "doneIn" "[I" : Cond) ∈ wsX4_newAct := by decide +kernel
set_option maxRecDepth 100000 in
theorem kw_X4_newAct__fieldLink_RX4_65_ActHouseModel_begunIn_I_ : (.fieldLink RX4 65 "ActHouseModel" "begunIn" "[I" : Cond) ∈ wsX4_newAct := by decide +kernel
def f_X4_newAct (x1 : Int32) (x2 : Int32) (x3 : Int32) (x4 : Int32) (M0 : MS) : Option (Int32 × MS) := (if (M0.1 7) = 80 then some (((-1) : Int32), M0) else (if 0 ≤ (M0.1 7).toInt ∧ (M0.1 7).toInt < 80 then (k_let (mA M0 8 ((M0.1 7).toNatClampNeg) x1) fun M3 => (if 0 ≤ (M3.1 7).toInt ∧ (M3.1 7).toInt < 80 then (k_let (mA M3 9 ((M3.1 7).toNatClampNeg) x2) fun M5 => (if 0 ≤ (M5.1 7).toInt ∧ (M5.1 7).toInt < 80 then (k_let (mA M5 10 ((M5.1 7).toNatClampNeg) x3) fun M7 => (if 0 ≤ (M7.1 7).toInt ∧ (M7.1 7).toInt < 80 then (k_let (mA M7 19 ((M7.1 7).toNatClampNeg) x4) fun M9 => (if 0 ≤ (M9.1 7).toInt ∧ (M9.1 7).toInt < 80 then (k_let (mA M9 17 ((M9.1 7).toNatClampNeg) ((-1) : Int32)) fun M11 => (if 0 ≤ (M11.1 7).toInt ∧ (M11.1 7).toInt < 80 then (k_let (mA M11 20 ((M11.1 7).toNatClampNeg) ((-1) : Int32)) fun M13 => (k_let (mI M13 7 ((M13.1 7) + 1)) fun M14 => some (((M14.1 7) - 1), M14))) else none)) else none)) else none)) else none)) else none)) else none))
set_option maxHeartbeats 4000000 in
set_option maxRecDepth 100000 in
theorem c_X4_newAct {l : Launch} {D : va_G} {sz : Nat} {cI cZ : ClassId} {h : Nat} {ad : Nat → Nat} {M0 M' : MS} {x1 x2 x3 x4 r' : Int32} (hf : f_X4_newAct x1 x2 x3 x4 M0 = some (r', M')) : Met l yX4_newAct wsX4_newAct ({ frames := 0, cells := 0, slots := 0, locals := 0 }) (va_Pc [.ref h, .int x1, .int x2, .int x3, .int x4] (k_Pre D [(cI, .int), (cZ, .boolean)] (mW cI cZ h ad M0) sz)) (va_Qi (fun (r0 : Int32) (u : va_W × List (ClassId × FieldType)) => r0 = r' ∧ u = (mW cI cZ h ad M', [(cI, .int), (cZ, .boolean)]) ∧ M'.2.2 = M0.2.2) (k_B D (va_A (mW cI cZ h ad M0) sz)) (va_A (mW cI cZ h ad M0) sz)) (0) (0) (va_A (mW cI cZ h ad M0) sz) := by
  refine Met.ofW (cc := cX4_newAct) (maxL := 5) (ret := (some .int)) (by decide) rfl ?_
  intro p e s m args below meth c s₁ B hml hv
  obtain ⟨rfl, hsz, hP, hK, hD0⟩ := hv
  have hx := B.exec
  have hb := B.bytes
  have hr := B.returns
  have hts := atoms_spec (ws := wsX4_newAct) B.pre
  have hown : s.vm.findClass RX4 = some m.cls := findClass_of_methodNamed B.named
  have hlocks := B.notSynchronized
  subst hsz
  have hD := hD0.self (sz := s.heap.size)
  generalize hAe : va_A (mW cI cZ h ad M0) s.heap.size = A at hD ⊢
  have hA : ∀ q : Nat, s.heap.size ≤ q → A q := fun q h => by rw [← hAe]; exact Or.inr h
  have hS : va_S A s.heap s.heap [] := va_S.rf
  have hl := lv_entry ([.ref h, .int x1, .int x2, .int x3, .int x4]) (n := 5) (Nat.le_of_ble_eq_true rfl)
  rw [lg_entry_eq]
  generalize (lg_sl ([.ref h, .int x1, .int x2, .int x3, .int x4]) ++ List.replicate (5 - (lg_sl ([.ref h, .int x1, .int x2, .int x3, .int x4])).length) Slot.unset).toArray = ls at hl ⊢
  have hl : lv_has ls 5 [(0, .ref h), (1, .int x1), (2, .int x2), (3, .int x3), (4, .int x4)] := hl
  refine k_Q (fun Q hQ => ?_)
  have hq := hf
  rw [f_X4_newAct] at hq
  refine lv_aload_n hx hb dX4_newAct_0 rfl (lv_at hl 0 rfl) ?_
  refine va_get (D := D) (ci := 4) (v := .int (M0.1 7)) (C := RX4) (T := TX4) (N := 39) hx hb hts kin_X4_newAct_X4 hown hK hP 0 rfl rfl 7 (by decide) (hts _ kw_X4_newAct__fieldLink_RX4_111_ActHouseModel_acts_I_) (fun _ h9 => h9) rfl dX4_newAct_1 ?_
  refine lv_bipush (v := 80) hx hb dX4_newAct_4 (by decide) ?_
  refine lv_icmp_ne (tgt := 11) hx hb dX4_newAct_6 (by decide) (fun c1 => ?_) (fun c1 => ?_)
  · skip
    rw [if_neg c1] at hq
    refine lv_aload_n hx hb dX4_newAct_11 rfl (lv_at hl 0 rfl) ?_
    refine va_get (D := D) (ci := 4) (v := .ref (ad 8)) (C := RX4) (T := TX4) (N := 39) hx hb hts kin_X4_newAct_X4 hown hK hP 0 rfl rfl 8 (by decide) (hts _ kw_X4_newAct__fieldLink_RX4_28_ActHouseModel_program_I_) (fun _ h9 => h9) rfl dX4_newAct_12 ?_
    refine lv_aload_n hx hb dX4_newAct_15 rfl (lv_at hl 0 rfl) ?_
    refine va_get (D := D) (ci := 4) (v := .int (M0.1 7)) (C := RX4) (T := TX4) (N := 39) hx hb hts kin_X4_newAct_X4 hown hK hP 0 rfl rfl 7 (by decide) (hts _ kw_X4_newAct__fieldLink_RX4_111_ActHouseModel_acts_I_) (fun _ h9 => h9) rfl dX4_newAct_16 ?_
    refine lv_iload_n hx hb dX4_newAct_19 rfl (lv_at hl 1 rfl) ?_
    obtain ⟨b2, hq⟩ := k_if hq
    refine va_iast hx hb hK hP hD hS 7 0 (f := (M0.2.1 8)) rfl rfl (x := x1) (k_in b2.1 b2.2) dX4_newAct_20 (fun H locs hP hD hS => ?_)
    obtain ⟨M3, eM3, hg3, hq⟩ := k_lA hq
    rw [mW_A8, ← eM3] at hP hD
    have hP : va_P D vwCl (mW cI cZ h ad M3) _ := hP
    have hD : va_D A (mW cI cZ h ad M3) := hD
    refine lv_aload_n hx hb dX4_newAct_21 rfl (lv_at hl 0 rfl) ?_
    refine va_get (D := D) (ci := 4) (v := .ref (ad 9)) (C := RX4) (T := TX4) (N := 39) hx hb hts kin_X4_newAct_X4 hown hK hP 0 rfl rfl 9 (by decide) (hts _ kw_X4_newAct__fieldLink_RX4_31_ActHouseModel_kind_I_) (fun _ h9 => h9) rfl dX4_newAct_22 ?_
    refine lv_aload_n hx hb dX4_newAct_25 rfl (lv_at hl 0 rfl) ?_
    refine va_get (D := D) (ci := 4) (v := .int (M3.1 7)) (C := RX4) (T := TX4) (N := 39) hx hb hts kin_X4_newAct_X4 hown hK hP 0 rfl rfl 7 (by decide) (hts _ kw_X4_newAct__fieldLink_RX4_111_ActHouseModel_acts_I_) (fun _ h9 => h9) rfl dX4_newAct_26 ?_
    refine lv_iload_n hx hb dX4_newAct_29 rfl (lv_at hl 2 rfl) ?_
    obtain ⟨b4, hq⟩ := k_if hq
    refine va_iast hx hb hK hP hD hS 8 0 (f := (M3.2.1 9)) rfl rfl (x := x2) (k_in b4.1 b4.2) dX4_newAct_30 (fun H locs hP hD hS => ?_)
    obtain ⟨M5, eM5, hg5, hq⟩ := k_lA hq
    rw [mW_A9, ← eM5] at hP hD
    have hP : va_P D vwCl (mW cI cZ h ad M5) _ := hP
    have hD : va_D A (mW cI cZ h ad M5) := hD
    refine lv_aload_n hx hb dX4_newAct_31 rfl (lv_at hl 0 rfl) ?_
    refine va_get (D := D) (ci := 4) (v := .ref (ad 10)) (C := RX4) (T := TX4) (N := 39) hx hb hts kin_X4_newAct_X4 hown hK hP 0 rfl rfl 10 (by decide) (hts _ kw_X4_newAct__fieldLink_RX4_34_ActHouseModel_rank_I_) (fun _ h9 => h9) rfl dX4_newAct_32 ?_
    refine lv_aload_n hx hb dX4_newAct_35 rfl (lv_at hl 0 rfl) ?_
    refine va_get (D := D) (ci := 4) (v := .int (M5.1 7)) (C := RX4) (T := TX4) (N := 39) hx hb hts kin_X4_newAct_X4 hown hK hP 0 rfl rfl 7 (by decide) (hts _ kw_X4_newAct__fieldLink_RX4_111_ActHouseModel_acts_I_) (fun _ h9 => h9) rfl dX4_newAct_36 ?_
    refine lv_iload_n hx hb dX4_newAct_39 rfl (lv_at hl 3 rfl) ?_
    obtain ⟨b6, hq⟩ := k_if hq
    refine va_iast hx hb hK hP hD hS 9 0 (f := (M5.2.1 10)) rfl rfl (x := x3) (k_in b6.1 b6.2) dX4_newAct_40 (fun H locs hP hD hS => ?_)
    obtain ⟨M7, eM7, hg7, hq⟩ := k_lA hq
    rw [mW_A10, ← eM7] at hP hD
    have hP : va_P D vwCl (mW cI cZ h ad M7) _ := hP
    have hD : va_D A (mW cI cZ h ad M7) := hD
    refine lv_aload_n hx hb dX4_newAct_41 rfl (lv_at hl 0 rfl) ?_
    refine va_get (D := D) (ci := 4) (v := .ref (ad 19)) (C := RX4) (T := TX4) (N := 39) hx hb hts kin_X4_newAct_X4 hown hK hP 0 rfl rfl 19 (by decide) (hts _ kw_X4_newAct__fieldLink_RX4_62_ActHouseModel_by_I_) (fun _ h9 => h9) rfl dX4_newAct_42 ?_
    refine lv_aload_n hx hb dX4_newAct_45 rfl (lv_at hl 0 rfl) ?_
    refine va_get (D := D) (ci := 4) (v := .int (M7.1 7)) (C := RX4) (T := TX4) (N := 39) hx hb hts kin_X4_newAct_X4 hown hK hP 0 rfl rfl 7 (by decide) (hts _ kw_X4_newAct__fieldLink_RX4_111_ActHouseModel_acts_I_) (fun _ h9 => h9) rfl dX4_newAct_46 ?_
    refine lv_iload hx hb dX4_newAct_49 (lv_at hl 4 rfl) ?_
    obtain ⟨b8, hq⟩ := k_if hq
    refine va_iast hx hb hK hP hD hS 18 0 (f := (M7.2.1 19)) rfl rfl (x := x4) (k_in b8.1 b8.2) dX4_newAct_51 (fun H locs hP hD hS => ?_)
    obtain ⟨M9, eM9, hg9, hq⟩ := k_lA hq
    rw [mW_A19, ← eM9] at hP hD
    have hP : va_P D vwCl (mW cI cZ h ad M9) _ := hP
    have hD : va_D A (mW cI cZ h ad M9) := hD
    refine lv_aload_n hx hb dX4_newAct_52 rfl (lv_at hl 0 rfl) ?_
    refine va_get (D := D) (ci := 4) (v := .ref (ad 17)) (C := RX4) (T := TX4) (N := 39) hx hb hts kin_X4_newAct_X4 hown hK hP 0 rfl rfl 17 (by decide) (hts _ kw_X4_newAct__fieldLink_RX4_56_ActHouseModel_doneIn_I_) (fun _ h9 => h9) rfl dX4_newAct_53 ?_
    refine lv_aload_n hx hb dX4_newAct_56 rfl (lv_at hl 0 rfl) ?_
    refine va_get (D := D) (ci := 4) (v := .int (M9.1 7)) (C := RX4) (T := TX4) (N := 39) hx hb hts kin_X4_newAct_X4 hown hK hP 0 rfl rfl 7 (by decide) (hts _ kw_X4_newAct__fieldLink_RX4_111_ActHouseModel_acts_I_) (fun _ h9 => h9) rfl dX4_newAct_57 ?_
    refine lv_iconst (v := (-1)) hx hb dX4_newAct_60 (by decide) ?_
    obtain ⟨b10, hq⟩ := k_if hq
    refine va_iast hx hb hK hP hD hS 16 0 (f := (M9.2.1 17)) rfl rfl (x := (-1)) (k_in b10.1 b10.2) dX4_newAct_61 (fun H locs hP hD hS => ?_)
    obtain ⟨M11, eM11, hg11, hq⟩ := k_lA hq
    rw [mW_A17, ← eM11] at hP hD
    have hP : va_P D vwCl (mW cI cZ h ad M11) _ := hP
    have hD : va_D A (mW cI cZ h ad M11) := hD
    refine lv_aload_n hx hb dX4_newAct_62 rfl (lv_at hl 0 rfl) ?_
    refine va_get (D := D) (ci := 4) (v := .ref (ad 20)) (C := RX4) (T := TX4) (N := 39) hx hb hts kin_X4_newAct_X4 hown hK hP 0 rfl rfl 20 (by decide) (hts _ kw_X4_newAct__fieldLink_RX4_65_ActHouseModel_begunIn_I_) (fun _ h9 => h9) rfl dX4_newAct_63 ?_
    refine lv_aload_n hx hb dX4_newAct_66 rfl (lv_at hl 0 rfl) ?_
    refine va_get (D := D) (ci := 4) (v := .int (M11.1 7)) (C := RX4) (T := TX4) (N := 39) hx hb hts kin_X4_newAct_X4 hown hK hP 0 rfl rfl 7 (by decide) (hts _ kw_X4_newAct__fieldLink_RX4_111_ActHouseModel_acts_I_) (fun _ h9 => h9) rfl dX4_newAct_67 ?_
    refine lv_iconst (v := (-1)) hx hb dX4_newAct_70 (by decide) ?_
    obtain ⟨b12, hq⟩ := k_if hq
    refine va_iast hx hb hK hP hD hS 19 0 (f := (M11.2.1 20)) rfl rfl (x := (-1)) (k_in b12.1 b12.2) dX4_newAct_71 (fun H locs hP hD hS => ?_)
    obtain ⟨M13, eM13, hg13, hq⟩ := k_lA hq
    rw [mW_A20, ← eM13] at hP hD
    have hP : va_P D vwCl (mW cI cZ h ad M13) _ := hP
    have hD : va_D A (mW cI cZ h ad M13) := hD
    refine lv_aload_n hx hb dX4_newAct_72 rfl (lv_at hl 0 rfl) ?_
    refine lv_dup hx hb dX4_newAct_73 rfl ?_
    refine va_get (D := D) (ci := 4) (v := .int (M13.1 7)) (C := RX4) (T := TX4) (N := 39) hx hb hts kin_X4_newAct_X4 hown hK hP 0 rfl rfl 7 (by decide) (hts _ kw_X4_newAct__fieldLink_RX4_111_ActHouseModel_acts_I_) (fun _ h9 => h9) rfl dX4_newAct_74 ?_
    refine lv_iconst (v := 1) hx hb dX4_newAct_77 (by decide) ?_
    refine lv_iadd hx hb dX4_newAct_78 ?_
    refine va_put (D := D) (ci := 4) (v := .int ((M13.1 7) + 1)) (ty := .int) (C := RX4) (T := TX4) (N := 39) hx hb hts kin_X4_newAct_X4 tyX4 tyX4_ok nmX4 hown hK hP hD hS 0 (fs := mF ad M13) rfl rfl 7 (by decide) (hts _ kw_X4_newAct__fieldLink_RX4_111_ActHouseModel_acts_I_) (fun _ h9 => h9) rfl (by decide +kernel) rfl rfl (Nat.le_of_ble_eq_true rfl) dX4_newAct_79 (fun H locs hP hD hS => ?_)
    obtain ⟨M14, eM14, hg14, hq⟩ := k_lI hq
    rw [mW_I7, ← eM14] at hP hD
    have hP : va_P D vwCl (mW cI cZ h ad M14) _ := hP
    have hD : va_D A (mW cI cZ h ad M14) := hD
    refine lv_aload_n hx hb dX4_newAct_82 rfl (lv_at hl 0 rfl) ?_
    refine va_get (D := D) (ci := 4) (v := .int (M14.1 7)) (C := RX4) (T := TX4) (N := 39) hx hb hts kin_X4_newAct_X4 hown hK hP 0 rfl rfl 7 (by decide) (hts _ kw_X4_newAct__fieldLink_RX4_111_ActHouseModel_acts_I_) (fun _ h9 => h9) rfl dX4_newAct_83 ?_
    refine lv_iconst (v := 1) hx hb dX4_newAct_86 (by decide) ?_
    refine lv_isub hx hb dX4_newAct_87 ?_
    obtain ⟨e2, e3⟩ := k_so hq
    subst hQ
    have hP : va_P D vwCl (mW cI cZ h ad M14) _ := hP
    have hD : va_D A (mW cI cZ h ad M14) := hD
    refine W.widen (k := 0) (n := 0) (by decide) (by decide) ?_
    have hgE := congrArg (fun X : MS => X.2.2) e3
    have hgE : M14.2.2 = M'.2.2 := hgE
    exact W.iret (v := (M14.1 7) - 1) hx hb hr (fun t ht hW => ⟨⟨(M14.1 7) - 1, (mW cI cZ h ad M14, [(cI, .int), (cZ, .boolean)]), rfl, ⟨e2, (congrArg (fun X : MS => ((mW cI cZ h ad X, [(cI, .int), (cZ, .boolean)]) : va_W × List (ClassId × FieldType))) e3), by omega⟩, ⟨by rw [ht]; exact hP, va_K.moved hW.alike hK, hD⟩⟩, hS.F ht⟩) hS.2.2 dX4_newAct_88
  · skip
    rw [if_pos c1] at hq
    refine lv_iconst (v := (-1)) hx hb dX4_newAct_9 (by decide) ?_
    obtain ⟨e2, e3⟩ := k_so hq
    subst hQ
    have hP : va_P D vwCl (mW cI cZ h ad M0) _ := hP
    have hD : va_D A (mW cI cZ h ad M0) := hD
    refine W.widen (k := 0) (n := 0) (by decide) (by decide) ?_
    have hgE := congrArg (fun X : MS => X.2.2) e3
    have hgE : M0.2.2 = M'.2.2 := hgE
    exact W.iret (v := (-1)) hx hb hr (fun t ht hW => ⟨⟨(-1), (mW cI cZ h ad M0, [(cI, .int), (cZ, .boolean)]), rfl, ⟨e2, (congrArg (fun X : MS => ((mW cI cZ h ad X, [(cI, .int), (cZ, .boolean)]) : va_W × List (ClassId × FieldType))) e3), by omega⟩, ⟨by rw [ht]; exact hP, va_K.moved hW.alike hK, hD⟩⟩, hS.F ht⟩) hS.2.2 dX4_newAct_10
