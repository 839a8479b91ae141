set_option maxRecDepth 100000 in
theorem kw_X4_sorts__fieldLink_RX4_111_ActHouseModel_acts_I_ : (.fieldLink RX4 111 "ActHouseModel" "acts" "I" : Cond) ∈ wsX4_sorts := by decide +kernel
set_option maxRecDepth 100000 in
theorem kin_X4_sorts_X4 : ∀ w ∈ u_ws RX4 TX4 39, w ∈ wsX4_sorts := by decide +kernel
set_option maxRecDepth 100000 in
theorem kw_X4_sorts__fieldLink_RX4_37_ActHouseModel_state_I_ : (.fieldLink RX4 37 "ActHouseModel" "state" "[I" : Cond) ∈ wsX4_sorts := by decide +kernel
set_option maxRecDepth 100000 in
theorem kw_X4_sorts__fieldLink_RX4_98_ActHouseModel_order_I_ : (.fieldLink RX4 98 "ActHouseModel" "order" "[I" : Cond) ∈ wsX4_sorts := by decide +kernel
def f_X4_sorts_83 (K4 : Int32 → Int32 → Int32 → MS → Option (Int32 × MS)) (v1 : Int32) (v2 : Int32) (v3 : Int32)  (M : MS) : Option (Int32 × MS) := K4 v1 v2 (v3 + 1) M
def f_X4_sorts_72 (K4 : Int32 → Int32 → Int32 → MS → Option (Int32 × MS)) (v1 : Int32) (v2 : Int32) (v3 : Int32) (v4 : Int32)  (M : MS) : Option (Int32 × MS) := (if 0 ≤ v4.toInt ∧ v4.toInt < 80 then (k_let (mA M 36 v4.toNatClampNeg v3) fun M6 => f_X4_sorts_83 K4 v1 (v2 + 1) v3 M6) else none)
def f_X4_sorts_28 (K4 : Int32 → Int32 → Int32 → MS → Option (Int32 × MS)) : Nat → Int32 → Int32 → Int32 → Int32 → MS → Option (Int32 × MS)
  | 0, _, _, _, _, _ => none
  | k + 1, v1, v2, v3, v4, M => (if v4 ≤ 0 then f_X4_sorts_72 K4 v1 v2 v3 v4 M else (if 0 ≤ (v4 - 1).toInt ∧ (v4 - 1).toInt < 80 then (k_bind (f_X4_isAhead v3 ((M.2.1 36) (v4 - 1).toNatClampNeg) M) fun r8 M8 => (if r8 = 0 then f_X4_sorts_72 K4 v1 v2 v3 v4 M8 else (if 0 ≤ v4.toInt ∧ v4.toInt < 80 then (k_let (mA M8 36 v4.toNatClampNeg ((M8.2.1 36) (v4 - 1).toNatClampNeg)) fun M11 => f_X4_sorts_28 K4 k v1 v2 v3 (v4 - 1) M11) else none))) else none))
def f_X4_sorts_4  : Nat → Int32 → Int32 → Int32 → MS → Option (Int32 × MS)
  | 0, _, _, _, _ => none
  | k + 1, v1, v2, v3, M => (if (M.1 7) ≤ v3 then some (v2, M) else (if 0 ≤ v3.toInt ∧ v3.toInt < 80 then (if ((M.2.1 11) v3.toNatClampNeg) = v1 then f_X4_sorts_28 (fun (v1 : Int32) (v2 : Int32) (v3 : Int32) (M : MS) => f_X4_sorts_4  k v1 v2 v3 M) 200 v1 v2 v3 v2 M else f_X4_sorts_83 (fun (v1 : Int32) (v2 : Int32) (v3 : Int32) (M : MS) => f_X4_sorts_4  k v1 v2 v3 M) v1 v2 v3 M) else none))
def f_X4_sorts (x1 : Int32) (M0 : MS) : Option (Int32 × MS) := f_X4_sorts_4  200 x1 (0 : Int32) (0 : Int32) M0
set_option maxHeartbeats 4000000 in
set_option maxRecDepth 100000 in
theorem c_X4_sorts {l : Launch} {D : va_G} {sz : Nat} {cI cZ : ClassId} {h : Nat} {ad : Nat → Nat} {M0 M' : MS} {x1 r' : Int32} (hf : f_X4_sorts x1 M0 = some (r', M')) : Met l yX4_sorts wsX4_sorts ({ frames := 1, cells := 0, slots := 0, locals := 22 }) (va_Pc [.ref h, .int x1] (k_Pre D [(cI, .int), (cZ, .boolean)] (mW cI cZ h ad M0) sz)) (va_Qi (fun (r0 : Int32) (u : va_W × List (ClassId × FieldType)) => r0 = r' ∧ u = (mW cI cZ h ad M', [(cI, .int), (cZ, .boolean)]) ∧ M'.2.2 = M0.2.2) (k_B D (va_A (mW cI cZ h ad M0) sz)) (va_A (mW cI cZ h ad M0) sz)) (0) (0) (va_A (mW cI cZ h ad M0) sz) := by
  refine Met.ofW (cc := cX4_sorts) (maxL := 5) (ret := (some .int)) (by decide) rfl ?_
  intro p e s m args below meth c s₁ B hml hv
  obtain ⟨rfl, hsz, hP, hK, hD0⟩ := hv
  have hx := B.exec
  have hb := B.bytes
  have hr := B.returns
  have hts := atoms_spec (ws := wsX4_sorts) B.pre
  have hown : s.vm.findClass RX4 = some m.cls := findClass_of_methodNamed B.named
  have hlocks := B.notSynchronized
  subst hsz
  have hD := hD0.self (sz := s.heap.size)
  generalize hAe : va_A (mW cI cZ h ad M0) s.heap.size = A at hD ⊢
  have hA : ∀ q : Nat, s.heap.size ≤ q → A q := fun q h => by rw [← hAe]; exact Or.inr h
  have hS : va_S A s.heap s.heap [] := va_S.rf
  have hl := lv_entry ([.ref h, .int x1]) (n := 5) (Nat.le_of_ble_eq_true rfl)
  rw [lg_entry_eq]
  generalize (lg_sl ([.ref h, .int x1]) ++ List.replicate (5 - (lg_sl ([.ref h, .int x1])).length) Slot.unset).toArray = ls at hl ⊢
  have hl : lv_has ls 5 [(0, .ref h), (1, .int x1)] := hl
  refine k_Q (fun Q hQ => ?_)
  have B83 : ∀ (K4 : Int32 → Int32 → Int32 → MS → Option (Int32 × MS)) (hK4 : ∀ (v1 : Int32) (v2 : Int32) (v3 : Int32)  (M : MS)  (H : Heap) (locs : List Loc) (ls : Array Slot), K4 v1 v2 v3 M = some (r', M') → M.2.2 = M0.2.2 → va_P D vwCl (mW cI cZ h ad M) H → va_D A (mW cI cZ h ad M) → va_S A s.heap H locs → lv_has ls 5 [(0, .ref h), (1, .int v1), (2, .int v2), (3, .int v3)] → W p l e (headSpec wsX4_sorts ({ frames := 1, cells := 0, slots := 0, locals := 22 })).room s m ([.ref h, .int x1] : List Value).toArray below meth c H locs (0) (0) Q (F0 m 4 ls [])), ∀ (v1 : Int32) (v2 : Int32) (v3 : Int32)  (M : MS)  (H : Heap) (locs : List Loc) (ls : Array Slot), f_X4_sorts_83 K4 v1 v2 v3 M = some (r', M') → M.2.2 = M0.2.2 → va_P D vwCl (mW cI cZ h ad M) H → va_D A (mW cI cZ h ad M) → va_S A s.heap H locs → lv_has ls 5 [(0, .ref h), (1, .int v1), (2, .int v2), (3, .int v3)] → W p l e (headSpec wsX4_sorts ({ frames := 1, cells := 0, slots := 0, locals := 22 })).room s m ([.ref h, .int x1] : List Value).toArray below meth c H locs (0) (0) Q (F0 m 83 ls []) := by
    intro K4 hK4
    intro v1 v2 v3  M  H locs ls hq hg hP hD hS hl
    rw [f_X4_sorts_83] at hq
    refine lv_iinc (v := v3 + 1) (lv' := [(3, .int (v3 + 1)), (0, .ref h), (1, .int v1), (2, .int v2)]) hx hb dX4_sorts_83 hl (k := 3) rfl (by rfl) (by decide) rfl (fun ls hl => ?_)
    refine lv_goto (tgt := 4) hx hb dX4_sorts_86 (by decide) ?_
    exact hK4 v1 v2 (v3 + 1) M  _ _ _ hq (by show M.2.2 = M0.2.2; omega) hP hD hS (lv_sub hl [1, 2, 3, 0] rfl)
  have B72 : ∀ (K4 : Int32 → Int32 → Int32 → MS → Option (Int32 × MS)) (hK4 : ∀ (v1 : Int32) (v2 : Int32) (v3 : Int32)  (M : MS)  (H : Heap) (locs : List Loc) (ls : Array Slot), K4 v1 v2 v3 M = some (r', M') → M.2.2 = M0.2.2 → va_P D vwCl (mW cI cZ h ad M) H → va_D A (mW cI cZ h ad M) → va_S A s.heap H locs → lv_has ls 5 [(0, .ref h), (1, .int v1), (2, .int v2), (3, .int v3)] → W p l e (headSpec wsX4_sorts ({ frames := 1, cells := 0, slots := 0, locals := 22 })).room s m ([.ref h, .int x1] : List Value).toArray below meth c H locs (0) (0) Q (F0 m 4 ls [])), ∀ (v1 : Int32) (v2 : Int32) (v3 : Int32) (v4 : Int32)  (M : MS)  (H : Heap) (locs : List Loc) (ls : Array Slot), f_X4_sorts_72 K4 v1 v2 v3 v4 M = some (r', M') → M.2.2 = M0.2.2 → va_P D vwCl (mW cI cZ h ad M) H → va_D A (mW cI cZ h ad M) → va_S A s.heap H locs → lv_has ls 5 [(0, .ref h), (1, .int v1), (2, .int v2), (3, .int v3), (4, .int v4)] → W p l e (headSpec wsX4_sorts ({ frames := 1, cells := 0, slots := 0, locals := 22 })).room s m ([.ref h, .int x1] : List Value).toArray below meth c H locs (0) (0) Q (F0 m 72 ls []) := by
    intro K4 hK4
    intro v1 v2 v3 v4  M  H locs ls hq hg hP hD hS hl
    rw [f_X4_sorts_72] at hq
    refine lv_aload_n hx hb dX4_sorts_72 rfl (lv_at hl 0 rfl) ?_
    refine va_get (D := D) (ci := 4) (v := .ref (ad 36)) (C := RX4) (T := TX4) (N := 39) hx hb hts kin_X4_sorts_X4 hown hK hP 0 rfl rfl 36 (by decide) (hts _ kw_X4_sorts__fieldLink_RX4_98_ActHouseModel_order_I_) (fun _ h9 => h9) rfl dX4_sorts_73 ?_
    refine lv_iload hx hb dX4_sorts_76 (lv_at hl 4 rfl) ?_
    refine lv_iload_n hx hb dX4_sorts_78 rfl (lv_at hl 3 rfl) ?_
    obtain ⟨b5, hq⟩ := k_if hq
    refine va_iast hx hb hK hP hD hS 30 0 (f := (M.2.1 36)) rfl rfl (x := v3) (k_in b5.1 b5.2) dX4_sorts_79 (fun H locs hP hD hS => ?_)
    obtain ⟨M6, eM6, hg6, hq⟩ := k_lA hq
    rw [mW_A36, ← eM6] at hP hD
    have hP : va_P D vwCl (mW cI cZ h ad M6) _ := hP
    have hD : va_D A (mW cI cZ h ad M6) := hD
    refine lv_iinc (v := v2 + 1) (lv' := [(2, .int (v2 + 1)), (0, .ref h), (1, .int v1), (3, .int v3), (4, .int v4)]) hx hb dX4_sorts_80 hl (k := 2) rfl (by rfl) (by decide) rfl (fun ls hl => ?_)
    exact B83 K4 hK4 v1 (v2 + 1) v3 M6  _ _ _ hq (by show M6.2.2 = M0.2.2; omega) hP hD hS (lv_sub hl [1, 2, 0, 3] rfl)
  have B28 : ∀ (K4 : Int32 → Int32 → Int32 → MS → Option (Int32 × MS)) (hK4 : ∀ (v1 : Int32) (v2 : Int32) (v3 : Int32)  (M : MS)  (H : Heap) (locs : List Loc) (ls : Array Slot), K4 v1 v2 v3 M = some (r', M') → M.2.2 = M0.2.2 → va_P D vwCl (mW cI cZ h ad M) H → va_D A (mW cI cZ h ad M) → va_S A s.heap H locs → lv_has ls 5 [(0, .ref h), (1, .int v1), (2, .int v2), (3, .int v3)] → W p l e (headSpec wsX4_sorts ({ frames := 1, cells := 0, slots := 0, locals := 22 })).room s m ([.ref h, .int x1] : List Value).toArray below meth c H locs (0) (0) Q (F0 m 4 ls [])) (k : Nat), ∀ (v1 : Int32) (v2 : Int32) (v3 : Int32) (v4 : Int32)  (M : MS)  (H : Heap) (locs : List Loc) (ls : Array Slot), f_X4_sorts_28 K4 k v1 v2 v3 v4 M = some (r', M') → M.2.2 = M0.2.2 → va_P D vwCl (mW cI cZ h ad M) H → va_D A (mW cI cZ h ad M) → va_S A s.heap H locs → lv_has ls 5 [(0, .ref h), (1, .int v1), (2, .int v2), (3, .int v3), (4, .int v4)] → W p l e (headSpec wsX4_sorts ({ frames := 1, cells := 0, slots := 0, locals := 22 })).room s m ([.ref h, .int x1] : List Value).toArray below meth c H locs (0) (0) Q (F0 m 28 ls []) := by
    intro K4 hK4 k
    induction k with
    | zero =>
      intro v1 v2 v3 v4  M  H locs ls hq hg hP hD hS hl
      exact absurd hq (by rw [f_X4_sorts_28]; exact k_non)
    | succ k ih =>
      intro v1 v2 v3 v4  M  H locs ls hq hg hP hD hS hl
      rw [f_X4_sorts_28] at hq
      refine lv_iload hx hb dX4_sorts_28 (lv_at hl 4 rfl) ?_
      refine lv_if_le (tgt := 72) hx hb dX4_sorts_30 (by decide) (fun c4 => ?_) (fun c4 => ?_)
      · skip
        rw [if_pos c4] at hq
        exact B72 K4 hK4 v1 v2 v3 v4 M  _ _ _ hq (by show M.2.2 = M0.2.2; omega) hP hD hS (lv_sub hl [0, 1, 2, 3, 4] rfl)
      · skip
        rw [if_neg c4] at hq
        refine lv_aload_n hx hb dX4_sorts_33 rfl (lv_at hl 0 rfl) ?_
        refine lv_iload_n hx hb dX4_sorts_34 rfl (lv_at hl 3 rfl) ?_
        refine lv_aload_n hx hb dX4_sorts_35 rfl (lv_at hl 0 rfl) ?_
        refine va_get (D := D) (ci := 4) (v := .ref (ad 36)) (C := RX4) (T := TX4) (N := 39) hx hb hts kin_X4_sorts_X4 hown hK hP 0 rfl rfl 36 (by decide) (hts _ kw_X4_sorts__fieldLink_RX4_98_ActHouseModel_order_I_) (fun _ h9 => h9) rfl dX4_sorts_36 ?_
        refine lv_iload hx hb dX4_sorts_39 (lv_at hl 4 rfl) ?_
        refine lv_iconst (v := 1) hx hb dX4_sorts_41 (by decide) ?_
        refine lv_isub hx hb dX4_sorts_42 ?_
        obtain ⟨b7, hq⟩ := k_if hq
        refine va_iald hx hb hK hP 30 0 (f := (M.2.1 36)) rfl rfl (k_in b7.1 b7.2) dX4_sorts_43 ?_
        obtain ⟨q8, M8, h8, hq⟩ := k_bd hq
        have hFc := k_free hD hS hA
        refine va_calli (va_runV (As := [.int v3, .int ((M.2.1 36) (v4 - 1).toNatClampNeg)]) (rest := []) ⟨hx, hb, hml, hown, hts⟩ (c_X4_isAhead (l := l) (D := D) (cI := cI) (cZ := cZ) (h := h) (ad := ad)  (hf := h8)) (cwV 2 hts gX4_sorts_X4_isAhead rfl rfl rfl (by decide +kernel) ⟨Nat.le_of_ble_eq_true rfl, Nat.le_of_ble_eq_true rfl⟩) ⟨k_blind, va_recv hK hP (ci := 4) (q0 := 0) rfl rfl, fun U hU hW => ⟨rfl, k_pre hU hW hP hK hD⟩⟩ rfl rfl hl.1 rfl (lv_room (Nat.le_of_ble_eq_true rfl)) dX4_sorts_44 ⟨by decide, by decide⟩) hS (fun q _ h => hFc q h) hFc (fun r8 u t H1 locs ht hvm hw hB hz1 hk1 hS => ?_)
        obtain ⟨rfl, rfl, hg8⟩ := hw
        have hg8 : M8.2.2 = M.2.2 := hg8
        refine W.widen (k := 0) (n := 0) (Nat.le_refl _) (Nat.le_refl _) ?_
        obtain ⟨hP1, hK1, hD1⟩ := hB
        rw [ht] at hP1
        have hP := hP1
        have hD := k_weak hD1 hFc
        generalize H1 = H at hP hS ⊢
        have hP : va_P D vwCl (mW cI cZ h ad M8) _ := hP
        have hD : va_D A (mW cI cZ h ad M8) := hD
        refine lv_if_eq (tgt := 72) hx hb dX4_sorts_47 (by decide) (fun c9 => ?_) (fun c9 => ?_)
        · skip
          rw [if_pos c9] at hq
          exact B72 K4 hK4 v1 v2 v3 v4 M8  _ _ _ hq (by show M8.2.2 = M0.2.2; omega) hP hD hS (lv_sub hl [0, 1, 2, 3, 4] rfl)
        · skip
          rw [if_neg c9] at hq
          refine lv_aload_n hx hb dX4_sorts_50 rfl (lv_at hl 0 rfl) ?_
          refine va_get (D := D) (ci := 4) (v := .ref (ad 36)) (C := RX4) (T := TX4) (N := 39) hx hb hts kin_X4_sorts_X4 hown hK hP 0 rfl rfl 36 (by decide) (hts _ kw_X4_sorts__fieldLink_RX4_98_ActHouseModel_order_I_) (fun _ h9 => h9) rfl dX4_sorts_51 ?_
          refine lv_iload hx hb dX4_sorts_54 (lv_at hl 4 rfl) ?_
          refine lv_aload_n hx hb dX4_sorts_56 rfl (lv_at hl 0 rfl) ?_
          refine va_get (D := D) (ci := 4) (v := .ref (ad 36)) (C := RX4) (T := TX4) (N := 39) hx hb hts kin_X4_sorts_X4 hown hK hP 0 rfl rfl 36 (by decide) (hts _ kw_X4_sorts__fieldLink_RX4_98_ActHouseModel_order_I_) (fun _ h9 => h9) rfl dX4_sorts_57 ?_
          refine lv_iload hx hb dX4_sorts_60 (lv_at hl 4 rfl) ?_
          refine lv_iconst (v := 1) hx hb dX4_sorts_62 (by decide) ?_
          refine lv_isub hx hb dX4_sorts_63 ?_
          refine va_iald hx hb hK hP 30 0 (f := (M8.2.1 36)) rfl rfl (k_in b7.1 b7.2) dX4_sorts_64 ?_
          obtain ⟨b10, hq⟩ := k_if hq
          refine va_iast hx hb hK hP hD hS 30 0 (f := (M8.2.1 36)) rfl rfl (x := ((M8.2.1 36) (v4 - 1).toNatClampNeg)) (k_in b10.1 b10.2) dX4_sorts_65 (fun H locs hP hD hS => ?_)
          obtain ⟨M11, eM11, hg11, hq⟩ := k_lA hq
          rw [mW_A36, ← eM11] at hP hD
          have hP : va_P D vwCl (mW cI cZ h ad M11) _ := hP
          have hD : va_D A (mW cI cZ h ad M11) := hD
          refine lv_iinc (v := v4 - 1) (lv' := [(4, .int (v4 - 1)), (0, .ref h), (1, .int v1), (2, .int v2), (3, .int v3)]) hx hb dX4_sorts_66 hl (k := 4) rfl (by exact k_dec _) (by decide) rfl (fun ls hl => ?_)
          refine lv_goto (tgt := 28) hx hb dX4_sorts_69 (by decide) ?_
          exact ih v1 v2 v3 (v4 - 1) M11  _ _ _ hq (by show M11.2.2 = M0.2.2; omega) hP hD hS (lv_sub hl [1, 2, 3, 4, 0] rfl)
  have B4 : ∀  (k : Nat), ∀ (v1 : Int32) (v2 : Int32) (v3 : Int32)  (M : MS)  (H : Heap) (locs : List Loc) (ls : Array Slot), f_X4_sorts_4  k v1 v2 v3 M = some (r', M') → M.2.2 = M0.2.2 → va_P D vwCl (mW cI cZ h ad M) H → va_D A (mW cI cZ h ad M) → va_S A s.heap H locs → lv_has ls 5 [(0, .ref h), (1, .int v1), (2, .int v2), (3, .int v3)] → W p l e (headSpec wsX4_sorts ({ frames := 1, cells := 0, slots := 0, locals := 22 })).room s m ([.ref h, .int x1] : List Value).toArray below meth c H locs (0) (0) Q (F0 m 4 ls []) := by
    intro  k
    induction k with
    | zero =>
      intro v1 v2 v3  M  H locs ls hq hg hP hD hS hl
      exact absurd hq (by rw [f_X4_sorts_4]; exact k_non)
    | succ k ih =>
      intro v1 v2 v3  M  H locs ls hq hg hP hD hS hl
      rw [f_X4_sorts_4] at hq
      refine lv_iload_n hx hb dX4_sorts_4 rfl (lv_at hl 3 rfl) ?_
      refine lv_aload_n hx hb dX4_sorts_5 rfl (lv_at hl 0 rfl) ?_
      refine va_get (D := D) (ci := 4) (v := .int (M.1 7)) (C := RX4) (T := TX4) (N := 39) hx hb hts kin_X4_sorts_X4 hown hK hP 0 rfl rfl 7 (by decide) (hts _ kw_X4_sorts__fieldLink_RX4_111_ActHouseModel_acts_I_) (fun _ h9 => h9) rfl dX4_sorts_6 ?_
      refine lv_icmp_ge (tgt := 89) hx hb dX4_sorts_9 (by decide) (fun c1 => ?_) (fun c1 => ?_)
      · skip
        rw [if_pos c1] at hq
        refine lv_iload_n hx hb dX4_sorts_89 rfl (lv_at hl 2 rfl) ?_
        obtain ⟨e2, e3⟩ := k_so hq
        subst hQ
        have hP : va_P D vwCl (mW cI cZ h ad M) _ := hP
        have hD : va_D A (mW cI cZ h ad M) := hD
        refine W.widen (k := 0) (n := 0) (by decide) (by decide) ?_
        have hgE := congrArg (fun X : MS => X.2.2) e3
        have hgE : M.2.2 = M'.2.2 := hgE
        exact W.iret (v := v2) hx hb hr (fun t ht hW => ⟨⟨v2, (mW cI cZ h ad M, [(cI, .int), (cZ, .boolean)]), rfl, ⟨e2, (congrArg (fun X : MS => ((mW cI cZ h ad X, [(cI, .int), (cZ, .boolean)]) : va_W × List (ClassId × FieldType))) e3), by omega⟩, ⟨by rw [ht]; exact hP, va_K.moved hW.alike hK, hD⟩⟩, hS.F ht⟩) hS.2.2 dX4_sorts_90
      · skip
        rw [if_neg c1] at hq
        refine lv_aload_n hx hb dX4_sorts_12 rfl (lv_at hl 0 rfl) ?_
        refine va_get (D := D) (ci := 4) (v := .ref (ad 11)) (C := RX4) (T := TX4) (N := 39) hx hb hts kin_X4_sorts_X4 hown hK hP 0 rfl rfl 11 (by decide) (hts _ kw_X4_sorts__fieldLink_RX4_37_ActHouseModel_state_I_) (fun _ h9 => h9) rfl dX4_sorts_13 ?_
        refine lv_iload_n hx hb dX4_sorts_16 rfl (lv_at hl 3 rfl) ?_
        obtain ⟨b2, hq⟩ := k_if hq
        refine va_iald hx hb hK hP 10 0 (f := (M.2.1 11)) rfl rfl (k_in b2.1 b2.2) dX4_sorts_17 ?_
        refine lv_iload_n hx hb dX4_sorts_18 rfl (lv_at hl 1 rfl) ?_
        refine lv_icmp_eq (tgt := 25) hx hb dX4_sorts_19 (by decide) (fun c3 => ?_) (fun c3 => ?_)
        · skip
          rw [if_pos c3] at hq
          refine lv_iload_n hx hb dX4_sorts_25 rfl (lv_at hl 2 rfl) ?_
          refine lv_istore (lv' := [(4, .int v2), (0, .ref h), (1, .int v1), (2, .int v2), (3, .int v3)]) hx hb dX4_sorts_26 hl (by decide) rfl (fun ls hl => ?_)
          exact B28 (fun (v1 : Int32) (v2 : Int32) (v3 : Int32) (M : MS) => f_X4_sorts_4  k v1 v2 v3 M) ih 200 v1 v2 v3 v2 M  _ _ _ hq (by show M.2.2 = M0.2.2; omega) hP hD hS (lv_sub hl [1, 2, 3, 4, 0] rfl)
        · skip
          rw [if_neg c3] at hq
          refine lv_goto (tgt := 83) hx hb dX4_sorts_22 (by decide) ?_
          exact B83 (fun (v1 : Int32) (v2 : Int32) (v3 : Int32) (M : MS) => f_X4_sorts_4  k v1 v2 v3 M) ih v1 v2 v3 M  _ _ _ hq (by show M.2.2 = M0.2.2; omega) hP hD hS (lv_sub hl [0, 1, 2, 3] rfl)
  have hq := hf
  rw [f_X4_sorts] at hq
  refine lv_iconst (v := 0) hx hb dX4_sorts_0 (by decide) ?_
  refine lv_istore_n (lv' := [(2, .int 0), (0, .ref h), (1, .int x1)]) hx hb dX4_sorts_1 rfl hl (by decide) rfl (fun ls hl => ?_)
  refine lv_iconst (v := 0) hx hb dX4_sorts_2 (by decide) ?_
  refine lv_istore_n (lv' := [(3, .int 0), (2, .int 0), (0, .ref h), (1, .int x1)]) hx hb dX4_sorts_3 rfl hl (by decide) rfl (fun ls hl => ?_)
  exact B4  200 x1 (0 : Int32) (0 : Int32) M0  _ _ _ hq (by show M0.2.2 = M0.2.2; omega) hP hD hS (lv_sub hl [2, 3, 1, 0] rfl)
set_option maxRecDepth 100000 in
theorem kw_X4_waitsFor__fieldLink_RX4_37_ActHouseModel_state_I_ : (.fieldLink RX4 37 "ActHouseModel" "state" "[I" : Cond) ∈ wsX4_waitsFor := by decide +kernel
set_option maxRecDepth 100000 in
theorem kin_X4_waitsFor_X4 : ∀ w ∈ u_ws RX4 TX4 39, w ∈ wsX4_waitsFor := by decide +kernel
set_option maxRecDepth 100000 in
theorem kw_X4_waitsFor__fieldLink_RX4_52_ActHouseModel_isHeld_Z_ : (.fieldLink RX4 52 "ActHouseModel" "isHeld" "[Z" : Cond) ∈ wsX4_waitsFor := by decide +kernel
def f_X4_waitsFor_65  (s0 : Int32) (s1 : Int32) (s2 : Int32) (s3 : Int32)  (M : MS) : Option (Int32 × MS) := (k_bind (f_X4_bars s3 s2 s1 s0 M) fun r8 M8 => (if r8 = 0 then some ((0 : Int32), M8) else some ((1 : Int32), M8)))
def f_X4_waitsFor (x1 : Int32) (x2 : Int32) (M0 : MS) : Option (Int32 × MS) := (if 0 ≤ x1.toInt ∧ x1.toInt < 80 then (if ((M0.2.1 11) x1.toNatClampNeg) = 1 then (if ((M0.2.1 16) x1.toNatClampNeg) = 0 then some ((0 : Int32), M0) else (k_bind (f_X4_stepOf x1 M0) fun r4 M4 => (k_bind (f_X4_stepOf x1 M4) fun r5 M5 => (if (r4 / 10000) = 6 then some ((0 : Int32), M5) else (if (r4 / 10000) = 3 then f_X4_waitsFor_65  (1 : Int32) ((r5 / 100) - (r5 / 100) / 100 * 100) x1 x2 M5 else f_X4_waitsFor_65  (0 : Int32) ((r5 / 100) - (r5 / 100) / 100 * 100) x1 x2 M5))))) else some ((0 : Int32), M0)) else none)
set_option maxHeartbeats 4000000 in
set_option maxRecDepth 100000 in
theorem c_X4_waitsFor {l : Launch} {D : va_G} {sz : Nat} {cI cZ : ClassId} {h : Nat} {ad : Nat → Nat} {M0 M' : MS} {x1 x2 r' : Int32} (hf : f_X4_waitsFor x1 x2 M0 = some (r', M')) : Met l yX4_waitsFor wsX4_waitsFor ({ frames := 1, cells := 0, slots := 0, locals := 25 }) (va_Pc [.ref h, .int x1, .int x2] (k_Pre D [(cI, .int), (cZ, .boolean)] (mW cI cZ h ad M0) sz)) (va_Qi (fun (r0 : Int32) (u : va_W × List (ClassId × FieldType)) => r0 = r' ∧ u = (mW cI cZ h ad M', [(cI, .int), (cZ, .boolean)]) ∧ M'.2.2 = M0.2.2) (k_B D (va_A (mW cI cZ h ad M0) sz)) (va_A (mW cI cZ h ad M0) sz)) (0) (0) (va_A (mW cI cZ h ad M0) sz) := by
  refine Met.ofW (cc := cX4_waitsFor) (maxL := 5) (ret := (some .boolean)) (by decide) rfl ?_
  intro p e s m args below meth c s₁ B hml hv
  obtain ⟨rfl, hsz, hP, hK, hD0⟩ := hv
  have hx := B.exec
  have hb := B.bytes
  have hr := B.returns
  have hts := atoms_spec (ws := wsX4_waitsFor) B.pre
  have hown : s.vm.findClass RX4 = some m.cls := findClass_of_methodNamed B.named
  have hlocks := B.notSynchronized
  subst hsz
  have hD := hD0.self (sz := s.heap.size)
  generalize hAe : va_A (mW cI cZ h ad M0) s.heap.size = A at hD ⊢
  have hA : ∀ q : Nat, s.heap.size ≤ q → A q := fun q h => by rw [← hAe]; exact Or.inr h
  have hS : va_S A s.heap s.heap [] := va_S.rf
  have hl := lv_entry ([.ref h, .int x1, .int x2]) (n := 5) (Nat.le_of_ble_eq_true rfl)
  rw [lg_entry_eq]
  generalize (lg_sl ([.ref h, .int x1, .int x2]) ++ List.replicate (5 - (lg_sl ([.ref h, .int x1, .int x2])).length) Slot.unset).toArray = ls at hl ⊢
  have hl : lv_has ls 5 [(0, .ref h), (1, .int x1), (2, .int x2)] := hl
  refine k_Q (fun Q hQ => ?_)
  have B65 : ∀ (s0 : Int32) (s1 : Int32) (s2 : Int32) (s3 : Int32)  (M : MS)  (H : Heap) (locs : List Loc) (ls : Array Slot), f_X4_waitsFor_65 s0 s1 s2 s3 M = some (r', M') → M.2.2 = M0.2.2 → va_P D vwCl (mW cI cZ h ad M) H → va_D A (mW cI cZ h ad M) → va_S A s.heap H locs → lv_has ls 5 [] → W p l e (headSpec wsX4_waitsFor ({ frames := 1, cells := 0, slots := 0, locals := 25 })).room s m ([.ref h, .int x1, .int x2] : List Value).toArray below meth c H locs (0) (0) Q (F0 m 65 ls [.int s0, .int s1, .int s2, .int s3, .ref h]) := by
    intro s0 s1 s2 s3  M  H locs ls hq hg hP hD hS hl
    rw [f_X4_waitsFor_65] at hq
    obtain ⟨q8, M8, h8, hq⟩ := k_bd hq
    have hFc := k_free hD hS hA
    refine va_calli (va_runV (As := [.int s3, .int s2, .int s1, .int s0]) (rest := []) ⟨hx, hb, hml, hown, hts⟩ (c_X4_bars (l := l) (D := D) (cI := cI) (cZ := cZ) (h := h) (ad := ad)  (hf := h8)) (cwV 4 hts gX4_waitsFor_X4_bars rfl rfl rfl (by decide +kernel) ⟨Nat.le_of_ble_eq_true rfl, Nat.le_of_ble_eq_true rfl⟩) ⟨k_blind, va_recv hK hP (ci := 4) (q0 := 0) rfl rfl, fun U hU hW => ⟨rfl, k_pre hU hW hP hK hD⟩⟩ rfl rfl hl.1 rfl (lv_room (Nat.le_of_ble_eq_true rfl)) dX4_waitsFor_65 ⟨by decide, by decide⟩) hS (fun q _ h => hFc q h) hFc (fun r8 u t H1 locs ht hvm hw hB hz1 hk1 hS => ?_)
    obtain ⟨rfl, rfl, hg8⟩ := hw
    have hg8 : M8.2.2 = M.2.2 := hg8
    refine W.widen (k := 0) (n := 0) (Nat.le_refl _) (Nat.le_refl _) ?_
    obtain ⟨hP1, hK1, hD1⟩ := hB
    rw [ht] at hP1
    have hP := hP1
    have hD := k_weak hD1 hFc
    generalize H1 = H at hP hS ⊢
    have hP : va_P D vwCl (mW cI cZ h ad M8) _ := hP
    have hD : va_D A (mW cI cZ h ad M8) := hD
    refine lv_if_eq (tgt := 75) hx hb dX4_waitsFor_68 (by decide) (fun c9 => ?_) (fun c9 => ?_)
    · skip
      rw [if_pos c9] at hq
      refine lv_iconst (v := 0) hx hb dX4_waitsFor_75 (by decide) ?_
      obtain ⟨e2, e3⟩ := k_so hq
      subst hQ
      have hP : va_P D vwCl (mW cI cZ h ad M8) _ := hP
      have hD : va_D A (mW cI cZ h ad M8) := hD
      refine W.widen (k := 0) (n := 0) (by decide) (by decide) ?_
      have hgE := congrArg (fun X : MS => X.2.2) e3
      have hgE : M8.2.2 = M'.2.2 := hgE
      exact W.zret (v := 0) hx hb hr (by decide) (fun t ht hW => ⟨⟨0, (mW cI cZ h ad M8, [(cI, .int), (cZ, .boolean)]), rfl, ⟨e2, (congrArg (fun X : MS => ((mW cI cZ h ad X, [(cI, .int), (cZ, .boolean)]) : va_W × List (ClassId × FieldType))) e3), by omega⟩, ⟨by rw [ht]; exact hP, va_K.moved hW.alike hK, hD⟩⟩, hS.F ht⟩) hS.2.2 dX4_waitsFor_76
    · skip
      rw [if_neg c9] at hq
      refine lv_iconst (v := 1) hx hb dX4_waitsFor_71 (by decide) ?_
      refine lv_goto (tgt := 76) hx hb dX4_waitsFor_72 (by decide) ?_
      obtain ⟨e2, e3⟩ := k_so hq
      subst hQ
      have hP : va_P D vwCl (mW cI cZ h ad M8) _ := hP
      have hD : va_D A (mW cI cZ h ad M8) := hD
      refine W.widen (k := 0) (n := 0) (by decide) (by decide) ?_
      have hgE := congrArg (fun X : MS => X.2.2) e3
      have hgE : M8.2.2 = M'.2.2 := hgE
      exact W.zret (v := 1) hx hb hr (by decide) (fun t ht hW => ⟨⟨1, (mW cI cZ h ad M8, [(cI, .int), (cZ, .boolean)]), rfl, ⟨e2, (congrArg (fun X : MS => ((mW cI cZ h ad X, [(cI, .int), (cZ, .boolean)]) : va_W × List (ClassId × FieldType))) e3), by omega⟩, ⟨by rw [ht]; exact hP, va_K.moved hW.alike hK, hD⟩⟩, hS.F ht⟩) hS.2.2 dX4_waitsFor_76
  have hq := hf
  rw [f_X4_waitsFor] at hq
  refine lv_aload_n hx hb dX4_waitsFor_0 rfl (lv_at hl 0 rfl) ?_
  refine va_get (D := D) (ci := 4) (v := .ref (ad 11)) (C := RX4) (T := TX4) (N := 39) hx hb hts kin_X4_waitsFor_X4 hown hK hP 0 rfl rfl 11 (by decide) (hts _ kw_X4_waitsFor__fieldLink_RX4_37_ActHouseModel_state_I_) (fun _ h9 => h9) rfl dX4_waitsFor_1 ?_
  refine lv_iload_n hx hb dX4_waitsFor_4 rfl (lv_at hl 1 rfl) ?_
  obtain ⟨b1, hq⟩ := k_if hq
  refine va_iald hx hb hK hP 10 0 (f := (M0.2.1 11)) rfl rfl (k_in b1.1 b1.2) dX4_waitsFor_5 ?_
  refine lv_iconst (v := 1) hx hb dX4_waitsFor_6 (by decide) ?_
  refine lv_icmp_ne (tgt := 19) hx hb dX4_waitsFor_7 (by decide) (fun c2 => ?_) (fun c2 => ?_)
  · skip
    rw [if_neg c2] at hq
    refine lv_iconst (v := 0) hx hb dX4_waitsFor_19 (by decide) ?_
    obtain ⟨e2, e3⟩ := k_so hq
    subst hQ
    have hP : va_P D vwCl (mW cI cZ h ad M0) _ := hP
    have hD : va_D A (mW cI cZ h ad M0) := hD
    refine W.widen (k := 0) (n := 0) (by decide) (by decide) ?_
    have hgE := congrArg (fun X : MS => X.2.2) e3
    have hgE : M0.2.2 = M'.2.2 := hgE
    exact W.zret (v := 0) hx hb hr (by decide) (fun t ht hW => ⟨⟨0, (mW cI cZ h ad M0, [(cI, .int), (cZ, .boolean)]), rfl, ⟨e2, (congrArg (fun X : MS => ((mW cI cZ h ad X, [(cI, .int), (cZ, .boolean)]) : va_W × List (ClassId × FieldType))) e3), by omega⟩, ⟨by rw [ht]; exact hP, va_K.moved hW.alike hK, hD⟩⟩, hS.F ht⟩) hS.2.2 dX4_waitsFor_20
  · skip
    rw [if_pos c2] at hq
    refine lv_aload_n hx hb dX4_waitsFor_10 rfl (lv_at hl 0 rfl) ?_
    refine va_get (D := D) (ci := 4) (v := .ref (ad 16)) (C := RX4) (T := TX4) (N := 39) hx hb hts kin_X4_waitsFor_X4 hown hK hP 0 rfl rfl 16 (by decide) (hts _ kw_X4_waitsFor__fieldLink_RX4_52_ActHouseModel_isHeld_Z_) (fun _ h9 => h9) rfl dX4_waitsFor_11 ?_
    refine lv_iload_n hx hb dX4_waitsFor_14 rfl (lv_at hl 1 rfl) ?_
    refine va_zald hx hb hK hP 15 1 (f := (M0.2.1 16)) rfl rfl (k_in b1.1 b1.2) dX4_waitsFor_15 ?_
    refine lv_if_ne (tgt := 21) hx hb dX4_waitsFor_16 (by decide) (fun c3 => ?_) (fun c3 => ?_)
    · skip
      rw [if_neg c3] at hq
      refine lv_aload_n hx hb dX4_waitsFor_21 rfl (lv_at hl 0 rfl) ?_
      refine lv_iload_n hx hb dX4_waitsFor_22 rfl (lv_at hl 1 rfl) ?_
      obtain ⟨q4, M4, h4, hq⟩ := k_bd hq
      have hFc := k_free hD hS hA
      refine va_calli (va_runV (As := [.int x1]) (rest := []) ⟨hx, hb, hml, hown, hts⟩ (c_X4_stepOf (l := l) (D := D) (cI := cI) (cZ := cZ) (h := h) (ad := ad)  (hf := h4)) (cwV 1 hts gX4_waitsFor_X4_stepOf rfl rfl rfl (by decide +kernel) ⟨Nat.le_of_ble_eq_true rfl, Nat.le_of_ble_eq_true rfl⟩) ⟨k_blind, va_recv hK hP (ci := 4) (q0 := 0) rfl rfl, fun U hU hW => ⟨rfl, k_pre hU hW hP hK hD⟩⟩ rfl rfl hl.1 rfl (lv_room (Nat.le_of_ble_eq_true rfl)) dX4_waitsFor_23 ⟨by decide, by decide⟩) hS (fun q _ h => hFc q h) hFc (fun r4 u t H1 locs ht hvm hw hB hz1 hk1 hS => ?_)
      obtain ⟨rfl, rfl, hg4⟩ := hw
      have hg4 : M4.2.2 = M0.2.2 := hg4
      refine W.widen (k := 0) (n := 0) (Nat.le_refl _) (Nat.le_refl _) ?_
      obtain ⟨hP1, hK1, hD1⟩ := hB
      rw [ht] at hP1
      have hP := hP1
      have hD := k_weak hD1 hFc
      generalize H1 = H at hP hS ⊢
      have hP : va_P D vwCl (mW cI cZ h ad M4) _ := hP
      have hD : va_D A (mW cI cZ h ad M4) := hD
      refine lv_sipush (v := 10000) hx hb dX4_waitsFor_26 (by decide) ?_
      refine lv_idiv hx hb dX4_waitsFor_29 (by decide) ?_
      refine lv_istore_n (lv' := [(3, .int (r4 / 10000)), (0, .ref h), (1, .int x1), (2, .int x2)]) hx hb dX4_waitsFor_30 rfl hl (by decide) rfl (fun ls hl => ?_)
      refine lv_aload_n hx hb dX4_waitsFor_31 rfl (lv_at hl 1 rfl) ?_
      refine lv_iload_n hx hb dX4_waitsFor_32 rfl (lv_at hl 2 rfl) ?_
      obtain ⟨q5, M5, h5, hq⟩ := k_bd hq
      have hFc := k_free hD hS hA
      refine va_calli (va_runV (As := [.int x1]) (rest := []) ⟨hx, hb, hml, hown, hts⟩ (c_X4_stepOf (l := l) (D := D) (cI := cI) (cZ := cZ) (h := h) (ad := ad)  (hf := h5)) (cwV 1 hts gX4_waitsFor_X4_stepOf rfl rfl rfl (by decide +kernel) ⟨Nat.le_of_ble_eq_true rfl, Nat.le_of_ble_eq_true rfl⟩) ⟨k_blind, va_recv hK hP (ci := 4) (q0 := 0) rfl rfl, fun U hU hW => ⟨rfl, k_pre hU hW hP hK hD⟩⟩ rfl rfl hl.1 rfl (lv_room (Nat.le_of_ble_eq_true rfl)) dX4_waitsFor_33 ⟨by decide, by decide⟩) hS (fun q _ h => hFc q h) hFc (fun r5 u t H1 locs ht hvm hw hB hz1 hk1 hS => ?_)
      obtain ⟨rfl, rfl, hg5⟩ := hw
      have hg5 : M5.2.2 = M4.2.2 := hg5
      refine W.widen (k := 0) (n := 0) (Nat.le_refl _) (Nat.le_refl _) ?_
      obtain ⟨hP1, hK1, hD1⟩ := hB
      rw [ht] at hP1
      have hP := hP1
      have hD := k_weak hD1 hFc
      generalize H1 = H at hP hS ⊢
      have hP : va_P D vwCl (mW cI cZ h ad M5) _ := hP
      have hD : va_D A (mW cI cZ h ad M5) := hD
      refine lv_bipush (v := 100) hx hb dX4_waitsFor_36 (by decide) ?_
      refine lv_idiv hx hb dX4_waitsFor_38 (by decide) ?_
      refine lv_bipush (v := 100) hx hb dX4_waitsFor_39 (by decide) ?_
      refine lv_irem hx hb dX4_waitsFor_41 (by decide) ?_
      refine lv_istore (lv' := [(4, .int ((r5 / 100) - (r5 / 100) / 100 * 100)), (3, .int (r4 / 10000)), (0, .ref h), (1, .int x1), (2, .int x2)]) hx hb dX4_waitsFor_42 hl (by decide) rfl (fun ls hl => ?_)
      refine lv_iload_n hx hb dX4_waitsFor_44 rfl (lv_at hl 1 rfl) ?_
      refine lv_bipush (v := 6) hx hb dX4_waitsFor_45 (by decide) ?_
      refine lv_icmp_eq (tgt := 75) hx hb dX4_waitsFor_47 (by decide) (fun c6 => ?_) (fun c6 => ?_)
      · skip
        rw [if_pos c6] at hq
        refine lv_iconst (v := 0) hx hb dX4_waitsFor_75 (by decide) ?_
        obtain ⟨e2, e3⟩ := k_so hq
        subst hQ
        have hP : va_P D vwCl (mW cI cZ h ad M5) _ := hP
        have hD : va_D A (mW cI cZ h ad M5) := hD
        refine W.widen (k := 0) (n := 0) (by decide) (by decide) ?_
        have hgE := congrArg (fun X : MS => X.2.2) e3
        have hgE : M5.2.2 = M'.2.2 := hgE
        exact W.zret (v := 0) hx hb hr (by decide) (fun t ht hW => ⟨⟨0, (mW cI cZ h ad M5, [(cI, .int), (cZ, .boolean)]), rfl, ⟨e2, (congrArg (fun X : MS => ((mW cI cZ h ad X, [(cI, .int), (cZ, .boolean)]) : va_W × List (ClassId × FieldType))) e3), by omega⟩, ⟨by rw [ht]; exact hP, va_K.moved hW.alike hK, hD⟩⟩, hS.F ht⟩) hS.2.2 dX4_waitsFor_76
      · skip
        rw [if_neg c6] at hq
        refine lv_aload_n hx hb dX4_waitsFor_50 rfl (lv_at hl 2 rfl) ?_
        refine lv_iload_n hx hb dX4_waitsFor_51 rfl (lv_at hl 4 rfl) ?_
        refine lv_iload_n hx hb dX4_waitsFor_52 rfl (lv_at hl 3 rfl) ?_
        refine lv_iload hx hb dX4_waitsFor_53 (lv_at hl 0 rfl) ?_
        refine lv_iload_n hx hb dX4_waitsFor_55 rfl (lv_at hl 1 rfl) ?_
        refine lv_iconst (v := 3) hx hb dX4_waitsFor_56 (by decide) ?_
        refine lv_icmp_ne (tgt := 64) hx hb dX4_waitsFor_57 (by decide) (fun c7 => ?_) (fun c7 => ?_)
        · skip
          rw [if_neg c7] at hq
          refine lv_iconst (v := 0) hx hb dX4_waitsFor_64 (by decide) ?_
          exact B65  (0 : Int32) ((r5 / 100) - (r5 / 100) / 100 * 100) x1 x2 M5  _ _ _ hq (by show M5.2.2 = M0.2.2; omega) hP hD hS (lv_sub hl [] rfl)
        · skip
          rw [if_pos c7] at hq
          refine lv_iconst (v := 1) hx hb dX4_waitsFor_60 (by decide) ?_
          refine lv_goto (tgt := 65) hx hb dX4_waitsFor_61 (by decide) ?_
          exact B65  (1 : Int32) ((r5 / 100) - (r5 / 100) / 100 * 100) x1 x2 M5  _ _ _ hq (by show M5.2.2 = M0.2.2; omega) hP hD hS (lv_sub hl [] rfl)
    · skip
      rw [if_pos c3] at hq
      refine lv_iconst (v := 0) hx hb dX4_waitsFor_19 (by decide) ?_
      obtain ⟨e2, e3⟩ := k_so hq
      subst hQ
      have hP : va_P D vwCl (mW cI cZ h ad M0) _ := hP
      have hD : va_D A (mW cI cZ h ad M0) := hD
      refine W.widen (k := 0) (n := 0) (by decide) (by decide) ?_
      have hgE := congrArg (fun X : MS => X.2.2) e3
      have hgE : M0.2.2 = M'.2.2 := hgE
      exact W.zret (v := 0) hx hb hr (by decide) (fun t ht hW => ⟨⟨0, (mW cI cZ h ad M0, [(cI, .int), (cZ, .boolean)]), rfl, ⟨e2, (congrArg (fun X : MS => ((mW cI cZ h ad X, [(cI, .int), (cZ, .boolean)]) : va_W × List (ClassId × FieldType))) e3), by omega⟩, ⟨by rw [ht]; exact hP, va_K.moved hW.alike hK, hD⟩⟩, hS.F ht⟩) hS.2.2 dX4_waitsFor_20
set_option maxRecDepth 100000 in
theorem kw_X4_isInRing__fieldLink_RX4_111_ActHouseModel_acts_I_ : (.fieldLink RX4 111 "ActHouseModel" "acts" "I" : Cond) ∈ wsX4_isInRing := by decide +kernel
set_option maxRecDepth 100000 in
theorem kin_X4_isInRing_X4 : ∀ w ∈ u_ws RX4 TX4 39, w ∈ wsX4_isInRing := by decide +kernel
set_option maxRecDepth 100000 in
theorem kw_X4_isInRing__fieldLink_RX4_104_ActHouseModel_queue_I_ : (.fieldLink RX4 104 "ActHouseModel" "queue" "[I" : Cond) ∈ wsX4_isInRing := by decide +kernel
set_option maxRecDepth 100000 in
theorem kw_X4_isInRing__fieldLink_RX4_101_ActHouseModel_isReached_Z_ : (.fieldLink RX4 101 "ActHouseModel" "isReached" "[Z" : Cond) ∈ wsX4_isInRing := by decide +kernel
set_option maxRecDepth 100000 in
theorem kw_X4_isInRing__fieldLink_RX4_52_ActHouseModel_isHeld_Z_ : (.fieldLink RX4 52 "ActHouseModel" "isHeld" "[Z" : Cond) ∈ wsX4_isInRing := by decide +kernel
def f_X4_isInRing_118 (K34 : Int32 → Int32 → Int32 → MS → Option (Int32 × MS)) (v1 : Int32) (v2 : Int32) (v3 : Int32)  (M : MS) : Option (Int32 × MS) := K34 v1 v2 (v3 + 1) M
def f_X4_isInRing_112 (K34 : Int32 → Int32 → Int32 → MS → Option (Int32 × MS)) (K42 : Int32 → Int32 → Int32 → Int32 → MS → Option (Int32 × MS)) (v1 : Int32) (v2 : Int32) (v3 : Int32) (v4 : Int32)  (M : MS) : Option (Int32 × MS) := K42 v1 v2 v3 (v4 + 1) M
def f_X4_isInRing_42 (K34 : Int32 → Int32 → Int32 → MS → Option (Int32 × MS)) : Nat → Int32 → Int32 → Int32 → Int32 → MS → Option (Int32 × MS)
  | 0, _, _, _, _, _ => none
  | k + 1, v1, v2, v3, v4, M => (if (M.1 7) ≤ v4 then f_X4_isInRing_118 K34 v1 v2 v3 M else (if 0 ≤ v3.toInt ∧ v3.toInt < 81 then (if 0 ≤ ((M.2.1 38) v3.toNatClampNeg).toInt ∧ ((M.2.1 38) v3.toNatClampNeg).toInt < 80 then (if ((M.2.1 16) ((M.2.1 38) v3.toNatClampNeg).toNatClampNeg) = 0 then f_X4_isInRing_118 K34 v1 v2 v3 M else (if 0 ≤ v4.toInt ∧ v4.toInt < 80 then (if ((M.2.1 37) v4.toNatClampNeg) = 0 then (k_bind (f_X4_waitsFor ((M.2.1 38) v3.toNatClampNeg) v4 M) fun r12 M12 => (if r12 = 0 then f_X4_isInRing_112 K34 (fun (v1 : Int32) (v2 : Int32) (v3 : Int32) (v4 : Int32) (M : MS) => f_X4_isInRing_42 K34 k v1 v2 v3 v4 M) v1 v2 v3 v4 M12 else (k_let (mA M12 37 v4.toNatClampNeg (1 : Int32)) fun M14 => (if 0 ≤ v2.toInt ∧ v2.toInt < 81 then (k_let (mA M14 38 v2.toNatClampNeg v4) fun M16 => f_X4_isInRing_112 K34 (fun (v1 : Int32) (v2 : Int32) (v3 : Int32) (v4 : Int32) (M : MS) => f_X4_isInRing_42 K34 k v1 v2 v3 v4 M) v1 (v2 + 1) v3 v4 M16) else none)))) else f_X4_isInRing_112 K34 (fun (v1 : Int32) (v2 : Int32) (v3 : Int32) (v4 : Int32) (M : MS) => f_X4_isInRing_42 K34 k v1 v2 v3 v4 M) v1 v2 v3 v4 M) else none)) else none) else none))
def f_X4_isInRing_34  : Nat → Int32 → Int32 → Int32 → MS → Option (Int32 × MS)
  | 0, _, _, _, _ => none
  | k + 1, v1, v2, v3, M => (if v2 ≤ v3 then (if 0 ≤ v1.toInt ∧ v1.toInt < 80 then (if ((M.2.1 37) v1.toNatClampNeg) &&& 1 = ((M.2.1 37) v1.toNatClampNeg) then some (((M.2.1 37) v1.toNatClampNeg), M) else none) else none) else f_X4_isInRing_42 (fun (v1 : Int32) (v2 : Int32) (v3 : Int32) (M : MS) => f_X4_isInRing_34  k v1 v2 v3 M) 200 v1 v2 v3 (0 : Int32) M)
def f_X4_isInRing_2  : Nat → Int32 → Int32 → MS → Option (Int32 × MS)
  | 0, _, _, _ => none
  | k + 1, v1, v2, M => (if (M.1 7) ≤ v2 then (k_let (mA M 38 ((0 : Int32).toNatClampNeg) v1) fun M2 => f_X4_isInRing_34  200 v1 (1 : Int32) (0 : Int32) M2) else (if 0 ≤ v2.toInt ∧ v2.toInt < 80 then (k_let (mA M 37 v2.toNatClampNeg (0 : Int32)) fun M18 => f_X4_isInRing_2  k v1 (v2 + 1) M18) else none))
def f_X4_isInRing (x1 : Int32) (M0 : MS) : Option (Int32 × MS) := f_X4_isInRing_2  200 x1 (0 : Int32) M0
set_option maxHeartbeats 4000000 in
set_option maxRecDepth 100000 in
theorem c_X4_isInRing {l : Launch} {D : va_G} {sz : Nat} {cI cZ : ClassId} {h : Nat} {ad : Nat → Nat} {M0 M' : MS} {x1 r' : Int32} (hf : f_X4_isInRing x1 M0 = some (r', M')) : Met l yX4_isInRing wsX4_isInRing ({ frames := 2, cells := 0, slots := 0, locals := 49 }) (va_Pc [.ref h, .int x1] (k_Pre D [(cI, .int), (cZ, .boolean)] (mW cI cZ h ad M0) sz)) (va_Qi (fun (r0 : Int32) (u : va_W × List (ClassId × FieldType)) => r0 = r' ∧ u = (mW cI cZ h ad M', [(cI, .int), (cZ, .boolean)]) ∧ M'.2.2 = M0.2.2) (k_B D (va_A (mW cI cZ h ad M0) sz)) (va_A (mW cI cZ h ad M0) sz)) (0) (0) (va_A (mW cI cZ h ad M0) sz) := by
  refine Met.ofW (cc := cX4_isInRing) (maxL := 5) (ret := (some .boolean)) (by decide) rfl ?_
  intro p e s m args below meth c s₁ B hml hv
  obtain ⟨rfl, hsz, hP, hK, hD0⟩ := hv
  have hx := B.exec
  have hb := B.bytes
  have hr := B.returns
  have hts := atoms_spec (ws := wsX4_isInRing) B.pre
  have hown : s.vm.findClass RX4 = some m.cls := findClass_of_methodNamed B.named
  have hlocks := B.notSynchronized
  subst hsz
  have hD := hD0.self (sz := s.heap.size)
  generalize hAe : va_A (mW cI cZ h ad M0) s.heap.size = A at hD ⊢
  have hA : ∀ q : Nat, s.heap.size ≤ q → A q := fun q h => by rw [← hAe]; exact Or.inr h
  have hS : va_S A s.heap s.heap [] := va_S.rf
  have hl := lv_entry ([.ref h, .int x1]) (n := 5) (Nat.le_of_ble_eq_true rfl)
  rw [lg_entry_eq]
  generalize (lg_sl ([.ref h, .int x1]) ++ List.replicate (5 - (lg_sl ([.ref h, .int x1])).length) Slot.unset).toArray = ls at hl ⊢
  have hl : lv_has ls 5 [(0, .ref h), (1, .int x1)] := hl
  refine k_Q (fun Q hQ => ?_)
  have B118 : ∀ (K34 : Int32 → Int32 → Int32 → MS → Option (Int32 × MS)) (hK34 : ∀ (v1 : Int32) (v2 : Int32) (v3 : Int32)  (M : MS)  (H : Heap) (locs : List Loc) (ls : Array Slot), K34 v1 v2 v3 M = some (r', M') → M.2.2 = M0.2.2 → va_P D vwCl (mW cI cZ h ad M) H → va_D A (mW cI cZ h ad M) → va_S A s.heap H locs → lv_has ls 5 [(0, .ref h), (1, .int v1), (2, .int v2), (3, .int v3)] → W p l e (headSpec wsX4_isInRing ({ frames := 2, cells := 0, slots := 0, locals := 49 })).room s m ([.ref h, .int x1] : List Value).toArray below meth c H locs (0) (0) Q (F0 m 34 ls [])), ∀ (v1 : Int32) (v2 : Int32) (v3 : Int32)  (M : MS)  (H : Heap) (locs : List Loc) (ls : Array Slot), f_X4_isInRing_118 K34 v1 v2 v3 M = some (r', M') → M.2.2 = M0.2.2 → va_P D vwCl (mW cI cZ h ad M) H → va_D A (mW cI cZ h ad M) → va_S A s.heap H locs → lv_has ls 5 [(0, .ref h), (1, .int v1), (2, .int v2), (3, .int v3)] → W p l e (headSpec wsX4_isInRing ({ frames := 2, cells := 0, slots := 0, locals := 49 })).room s m ([.ref h, .int x1] : List Value).toArray below meth c H locs (0) (0) Q (F0 m 118 ls []) := by
    intro K34 hK34
    intro v1 v2 v3  M  H locs ls hq hg hP hD hS hl
    rw [f_X4_isInRing_118] at hq
    refine lv_iinc (v := v3 + 1) (lv' := [(3, .int (v3 + 1)), (0, .ref h), (1, .int v1), (2, .int v2)]) hx hb dX4_isInRing_118 hl (k := 3) rfl (by rfl) (by decide) rfl (fun ls hl => ?_)
    refine lv_goto (tgt := 34) hx hb dX4_isInRing_121 (by decide) ?_
    exact hK34 v1 v2 (v3 + 1) M  _ _ _ hq (by show M.2.2 = M0.2.2; omega) hP hD hS (lv_sub hl [1, 2, 3, 0] rfl)
  have B112 : ∀ (K34 : Int32 → Int32 → Int32 → MS → Option (Int32 × MS)) (hK34 : ∀ (v1 : Int32) (v2 : Int32) (v3 : Int32)  (M : MS)  (H : Heap) (locs : List Loc) (ls : Array Slot), K34 v1 v2 v3 M = some (r', M') → M.2.2 = M0.2.2 → va_P D vwCl (mW cI cZ h ad M) H → va_D A (mW cI cZ h ad M) → va_S A s.heap H locs → lv_has ls 5 [(0, .ref h), (1, .int v1), (2, .int v2), (3, .int v3)] → W p l e (headSpec wsX4_isInRing ({ frames := 2, cells := 0, slots := 0, locals := 49 })).room s m ([.ref h, .int x1] : List Value).toArray below meth c H locs (0) (0) Q (F0 m 34 ls [])) (K42 : Int32 → Int32 → Int32 → Int32 → MS → Option (Int32 × MS)) (hK42 : ∀ (v1 : Int32) (v2 : Int32) (v3 : Int32) (v4 : Int32)  (M : MS)  (H : Heap) (locs : List Loc) (ls : Array Slot), K42 v1 v2 v3 v4 M = some (r', M') → M.2.2 = M0.2.2 → va_P D vwCl (mW cI cZ h ad M) H → va_D A (mW cI cZ h ad M) → va_S A s.heap H locs → lv_has ls 5 [(0, .ref h), (1, .int v1), (2, .int v2), (3, .int v3), (4, .int v4)] → W p l e (headSpec wsX4_isInRing ({ frames := 2, cells := 0, slots := 0, locals := 49 })).room s m ([.ref h, .int x1] : List Value).toArray below meth c H locs (0) (0) Q (F0 m 42 ls [])), ∀ (v1 : Int32) (v2 : Int32) (v3 : Int32) (v4 : Int32)  (M : MS)  (H : Heap) (locs : List Loc) (ls : Array Slot), f_X4_isInRing_112 K34 K42 v1 v2 v3 v4 M = some (r', M') → M.2.2 = M0.2.2 → va_P D vwCl (mW cI cZ h ad M) H → va_D A (mW cI cZ h ad M) → va_S A s.heap H locs → lv_has ls 5 [(0, .ref h), (1, .int v1), (2, .int v2), (3, .int v3), (4, .int v4)] → W p l e (headSpec wsX4_isInRing ({ frames := 2, cells := 0, slots := 0, locals := 49 })).room s m ([.ref h, .int x1] : List Value).toArray below meth c H locs (0) (0) Q (F0 m 112 ls []) := by
    intro K34 hK34 K42 hK42
    intro v1 v2 v3 v4  M  H locs ls hq hg hP hD hS hl
    rw [f_X4_isInRing_112] at hq
    refine lv_iinc (v := v4 + 1) (lv' := [(4, .int (v4 + 1)), (0, .ref h), (1, .int v1), (2, .int v2), (3, .int v3)]) hx hb dX4_isInRing_112 hl (k := 4) rfl (by rfl) (by decide) rfl (fun ls hl => ?_)
    refine lv_goto (tgt := 42) hx hb dX4_isInRing_115 (by decide) ?_
    exact hK42 v1 v2 v3 (v4 + 1) M  _ _ _ hq (by show M.2.2 = M0.2.2; omega) hP hD hS (lv_sub hl [1, 2, 3, 4, 0] rfl)
  have B42 : ∀ (K34 : Int32 → Int32 → Int32 → MS → Option (Int32 × MS)) (hK34 : ∀ (v1 : Int32) (v2 : Int32) (v3 : Int32)  (M : MS)  (H : Heap) (locs : List Loc) (ls : Array Slot), K34 v1 v2 v3 M = some (r', M') → M.2.2 = M0.2.2 → va_P D vwCl (mW cI cZ h ad M) H → va_D A (mW cI cZ h ad M) → va_S A s.heap H locs → lv_has ls 5 [(0, .ref h), (1, .int v1), (2, .int v2), (3, .int v3)] → W p l e (headSpec wsX4_isInRing ({ frames := 2, cells := 0, slots := 0, locals := 49 })).room s m ([.ref h, .int x1] : List Value).toArray below meth c H locs (0) (0) Q (F0 m 34 ls [])) (k : Nat), ∀ (v1 : Int32) (v2 : Int32) (v3 : Int32) (v4 : Int32)  (M : MS)  (H : Heap) (locs : List Loc) (ls : Array Slot), f_X4_isInRing_42 K34 k v1 v2 v3 v4 M = some (r', M') → M.2.2 = M0.2.2 → va_P D vwCl (mW cI cZ h ad M) H → va_D A (mW cI cZ h ad M) → va_S A s.heap H locs → lv_has ls 5 [(0, .ref h), (1, .int v1), (2, .int v2), (3, .int v3), (4, .int v4)] → W p l e (headSpec wsX4_isInRing ({ frames := 2, cells := 0, slots := 0, locals := 49 })).room s m ([.ref h, .int x1] : List Value).toArray below meth c H locs (0) (0) Q (F0 m 42 ls []) := by
    intro K34 hK34 k
    induction k with
    | zero =>
      intro v1 v2 v3 v4  M  H locs ls hq hg hP hD hS hl
      exact absurd hq (by rw [f_X4_isInRing_42]; exact k_non)
    | succ k ih =>
      intro v1 v2 v3 v4  M  H locs ls hq hg hP hD hS hl
      rw [f_X4_isInRing_42] at hq
      refine lv_iload hx hb dX4_isInRing_42 (lv_at hl 4 rfl) ?_
      refine lv_aload_n hx hb dX4_isInRing_44 rfl (lv_at hl 0 rfl) ?_
      refine va_get (D := D) (ci := 4) (v := .int (M.1 7)) (C := RX4) (T := TX4) (N := 39) hx hb hts kin_X4_isInRing_X4 hown hK hP 0 rfl rfl 7 (by decide) (hts _ kw_X4_isInRing__fieldLink_RX4_111_ActHouseModel_acts_I_) (fun _ h9 => h9) rfl dX4_isInRing_45 ?_
      refine lv_icmp_ge (tgt := 118) hx hb dX4_isInRing_48 (by decide) (fun c6 => ?_) (fun c6 => ?_)
      · skip
        rw [if_pos c6] at hq
        exact B118 K34 hK34 v1 v2 v3 M  _ _ _ hq (by show M.2.2 = M0.2.2; omega) hP hD hS (lv_sub hl [0, 1, 2, 3] rfl)
      · skip
        rw [if_neg c6] at hq
        refine lv_aload_n hx hb dX4_isInRing_51 rfl (lv_at hl 0 rfl) ?_
        refine va_get (D := D) (ci := 4) (v := .ref (ad 16)) (C := RX4) (T := TX4) (N := 39) hx hb hts kin_X4_isInRing_X4 hown hK hP 0 rfl rfl 16 (by decide) (hts _ kw_X4_isInRing__fieldLink_RX4_52_ActHouseModel_isHeld_Z_) (fun _ h9 => h9) rfl dX4_isInRing_52 ?_
        refine lv_aload_n hx hb dX4_isInRing_55 rfl (lv_at hl 0 rfl) ?_
        refine va_get (D := D) (ci := 4) (v := .ref (ad 38)) (C := RX4) (T := TX4) (N := 39) hx hb hts kin_X4_isInRing_X4 hown hK hP 0 rfl rfl 38 (by decide) (hts _ kw_X4_isInRing__fieldLink_RX4_104_ActHouseModel_queue_I_) (fun _ h9 => h9) rfl dX4_isInRing_56 ?_
        refine lv_iload_n hx hb dX4_isInRing_59 rfl (lv_at hl 3 rfl) ?_
        obtain ⟨b7, hq⟩ := k_if hq
        refine va_iald hx hb hK hP 32 0 (f := (M.2.1 38)) rfl rfl (k_in b7.1 b7.2) dX4_isInRing_60 ?_
        obtain ⟨b8, hq⟩ := k_if hq
        refine va_zald hx hb hK hP 15 1 (f := (M.2.1 16)) rfl rfl (k_in b8.1 b8.2) dX4_isInRing_61 ?_
        refine lv_if_eq (tgt := 118) hx hb dX4_isInRing_62 (by decide) (fun c9 => ?_) (fun c9 => ?_)
        · skip
          rw [if_pos c9] at hq
          exact B118 K34 hK34 v1 v2 v3 M  _ _ _ hq (by show M.2.2 = M0.2.2; omega) hP hD hS (lv_sub hl [0, 1, 2, 3] rfl)
        · skip
          rw [if_neg c9] at hq
          refine lv_aload_n hx hb dX4_isInRing_65 rfl (lv_at hl 0 rfl) ?_
          refine va_get (D := D) (ci := 4) (v := .ref (ad 37)) (C := RX4) (T := TX4) (N := 39) hx hb hts kin_X4_isInRing_X4 hown hK hP 0 rfl rfl 37 (by decide) (hts _ kw_X4_isInRing__fieldLink_RX4_101_ActHouseModel_isReached_Z_) (fun _ h9 => h9) rfl dX4_isInRing_66 ?_
          refine lv_iload hx hb dX4_isInRing_69 (lv_at hl 4 rfl) ?_
          obtain ⟨b10, hq⟩ := k_if hq
          refine va_zald hx hb hK hP 31 1 (f := (M.2.1 37)) rfl rfl (k_in b10.1 b10.2) dX4_isInRing_71 ?_
          refine lv_if_ne (tgt := 112) hx hb dX4_isInRing_72 (by decide) (fun c11 => ?_) (fun c11 => ?_)
          · skip
            rw [if_neg c11] at hq
            exact B112 K34 hK34 (fun (v1 : Int32) (v2 : Int32) (v3 : Int32) (v4 : Int32) (M : MS) => f_X4_isInRing_42 K34 k v1 v2 v3 v4 M) ih v1 v2 v3 v4 M  _ _ _ hq (by show M.2.2 = M0.2.2; omega) hP hD hS (lv_sub hl [0, 1, 2, 3, 4] rfl)
          · skip
            rw [if_pos c11] at hq
            refine lv_aload_n hx hb dX4_isInRing_75 rfl (lv_at hl 0 rfl) ?_
            refine lv_aload_n hx hb dX4_isInRing_76 rfl (lv_at hl 0 rfl) ?_
            refine va_get (D := D) (ci := 4) (v := .ref (ad 38)) (C := RX4) (T := TX4) (N := 39) hx hb hts kin_X4_isInRing_X4 hown hK hP 0 rfl rfl 38 (by decide) (hts _ kw_X4_isInRing__fieldLink_RX4_104_ActHouseModel_queue_I_) (fun _ h9 => h9) rfl dX4_isInRing_77 ?_
            refine lv_iload_n hx hb dX4_isInRing_80 rfl (lv_at hl 3 rfl) ?_
            refine va_iald hx hb hK hP 32 0 (f := (M.2.1 38)) rfl rfl (k_in b7.1 b7.2) dX4_isInRing_81 ?_
            refine lv_iload hx hb dX4_isInRing_82 (lv_at hl 4 rfl) ?_
            obtain ⟨q12, M12, h12, hq⟩ := k_bd hq
            have hFc := k_free hD hS hA
            refine va_calli (va_runV (As := [.int ((M.2.1 38) v3.toNatClampNeg), .int v4]) (rest := []) ⟨hx, hb, hml, hown, hts⟩ (c_X4_waitsFor (l := l) (D := D) (cI := cI) (cZ := cZ) (h := h) (ad := ad)  (hf := h12)) (cwV 2 hts gX4_isInRing_X4_waitsFor rfl rfl rfl (by decide +kernel) ⟨Nat.le_of_ble_eq_true rfl, Nat.le_of_ble_eq_true rfl⟩) ⟨k_blind, va_recv hK hP (ci := 4) (q0 := 0) rfl rfl, fun U hU hW => ⟨rfl, k_pre hU hW hP hK hD⟩⟩ rfl rfl hl.1 rfl (lv_room (Nat.le_of_ble_eq_true rfl)) dX4_isInRing_84 ⟨by decide, by decide⟩) hS (fun q _ h => hFc q h) hFc (fun r12 u t H1 locs ht hvm hw hB hz1 hk1 hS => ?_)
            obtain ⟨rfl, rfl, hg12⟩ := hw
            have hg12 : M12.2.2 = M.2.2 := hg12
            refine W.widen (k := 0) (n := 0) (Nat.le_refl _) (Nat.le_refl _) ?_
            obtain ⟨hP1, hK1, hD1⟩ := hB
            rw [ht] at hP1
            have hP := hP1
            have hD := k_weak hD1 hFc
            generalize H1 = H at hP hS ⊢
            have hP : va_P D vwCl (mW cI cZ h ad M12) _ := hP
            have hD : va_D A (mW cI cZ h ad M12) := hD
            refine lv_if_ne (tgt := 93) hx hb dX4_isInRing_87 (by decide) (fun c13 => ?_) (fun c13 => ?_)
            · skip
              rw [if_neg c13] at hq
              refine lv_aload_n hx hb dX4_isInRing_93 rfl (lv_at hl 0 rfl) ?_
              refine va_get (D := D) (ci := 4) (v := .ref (ad 37)) (C := RX4) (T := TX4) (N := 39) hx hb hts kin_X4_isInRing_X4 hown hK hP 0 rfl rfl 37 (by decide) (hts _ kw_X4_isInRing__fieldLink_RX4_101_ActHouseModel_isReached_Z_) (fun _ h9 => h9) rfl dX4_isInRing_94 ?_
              refine lv_iload hx hb dX4_isInRing_97 (lv_at hl 4 rfl) ?_
              refine lv_iconst (v := 1) hx hb dX4_isInRing_99 (by decide) ?_
              refine va_zast hx hb hK hP hD hS 31 1 (f := (M12.2.1 37)) rfl rfl (x := 1) (k_in b10.1 b10.2) dX4_isInRing_100 (fun H locs hP hD hS => ?_)
              obtain ⟨M14, eM14, hg14, hq⟩ := k_lA hq
              rw [mW_A37, k_nb1, ← eM14] at hP hD
              have hP : va_P D vwCl (mW cI cZ h ad M14) _ := hP
              have hD : va_D A (mW cI cZ h ad M14) := hD
              refine lv_aload_n hx hb dX4_isInRing_101 rfl (lv_at hl 0 rfl) ?_
              refine va_get (D := D) (ci := 4) (v := .ref (ad 38)) (C := RX4) (T := TX4) (N := 39) hx hb hts kin_X4_isInRing_X4 hown hK hP 0 rfl rfl 38 (by decide) (hts _ kw_X4_isInRing__fieldLink_RX4_104_ActHouseModel_queue_I_) (fun _ h9 => h9) rfl dX4_isInRing_102 ?_
              refine lv_iload_n hx hb dX4_isInRing_105 rfl (lv_at hl 2 rfl) ?_
              refine lv_iload hx hb dX4_isInRing_106 (lv_at hl 4 rfl) ?_
              obtain ⟨b15, hq⟩ := k_if hq
              refine va_iast hx hb hK hP hD hS 32 0 (f := (M14.2.1 38)) rfl rfl (x := v4) (k_in b15.1 b15.2) dX4_isInRing_108 (fun H locs hP hD hS => ?_)
              obtain ⟨M16, eM16, hg16, hq⟩ := k_lA hq
              rw [mW_A38, ← eM16] at hP hD
              have hP : va_P D vwCl (mW cI cZ h ad M16) _ := hP
              have hD : va_D A (mW cI cZ h ad M16) := hD
              refine lv_iinc (v := v2 + 1) (lv' := [(2, .int (v2 + 1)), (0, .ref h), (1, .int v1), (3, .int v3), (4, .int v4)]) hx hb dX4_isInRing_109 hl (k := 2) rfl (by rfl) (by decide) rfl (fun ls hl => ?_)
              exact B112 K34 hK34 (fun (v1 : Int32) (v2 : Int32) (v3 : Int32) (v4 : Int32) (M : MS) => f_X4_isInRing_42 K34 k v1 v2 v3 v4 M) ih v1 (v2 + 1) v3 v4 M16  _ _ _ hq (by show M16.2.2 = M0.2.2; omega) hP hD hS (lv_sub hl [1, 2, 0, 3, 4] rfl)
            · skip
              rw [if_pos c13] at hq
              refine lv_goto (tgt := 112) hx hb dX4_isInRing_90 (by decide) ?_
              exact B112 K34 hK34 (fun (v1 : Int32) (v2 : Int32) (v3 : Int32) (v4 : Int32) (M : MS) => f_X4_isInRing_42 K34 k v1 v2 v3 v4 M) ih v1 v2 v3 v4 M12  _ _ _ hq (by show M12.2.2 = M0.2.2; omega) hP hD hS (lv_sub hl [0, 1, 2, 3, 4] rfl)
  have B34 : ∀  (k : Nat), ∀ (v1 : Int32) (v2 : Int32) (v3 : Int32)  (M : MS)  (H : Heap) (locs : List Loc) (ls : Array Slot), f_X4_isInRing_34  k v1 v2 v3 M = some (r', M') → M.2.2 = M0.2.2 → va_P D vwCl (mW cI cZ h ad M) H → va_D A (mW cI cZ h ad M) → va_S A s.heap H locs → lv_has ls 5 [(0, .ref h), (1, .int v1), (2, .int v2), (3, .int v3)] → W p l e (headSpec wsX4_isInRing ({ frames := 2, cells := 0, slots := 0, locals := 49 })).room s m ([.ref h, .int x1] : List Value).toArray below meth c H locs (0) (0) Q (F0 m 34 ls []) := by
    intro  k
    induction k with
    | zero =>
      intro v1 v2 v3  M  H locs ls hq hg hP hD hS hl
      exact absurd hq (by rw [f_X4_isInRing_34]; exact k_non)
    | succ k ih =>
      intro v1 v2 v3  M  H locs ls hq hg hP hD hS hl
      rw [f_X4_isInRing_34] at hq
      refine lv_iload_n hx hb dX4_isInRing_34 rfl (lv_at hl 3 rfl) ?_
      refine lv_iload_n hx hb dX4_isInRing_35 rfl (lv_at hl 2 rfl) ?_
      refine lv_icmp_ge (tgt := 124) hx hb dX4_isInRing_36 (by decide) (fun c3 => ?_) (fun c3 => ?_)
      · skip
        rw [if_pos c3] at hq
        refine lv_aload_n hx hb dX4_isInRing_124 rfl (lv_at hl 0 rfl) ?_
        refine va_get (D := D) (ci := 4) (v := .ref (ad 37)) (C := RX4) (T := TX4) (N := 39) hx hb hts kin_X4_isInRing_X4 hown hK hP 0 rfl rfl 37 (by decide) (hts _ kw_X4_isInRing__fieldLink_RX4_101_ActHouseModel_isReached_Z_) (fun _ h9 => h9) rfl dX4_isInRing_125 ?_
        refine lv_iload_n hx hb dX4_isInRing_128 rfl (lv_at hl 1 rfl) ?_
        obtain ⟨b4, hq⟩ := k_if hq
        refine va_zald hx hb hK hP 31 1 (f := (M.2.1 37)) rfl rfl (k_in b4.1 b4.2) dX4_isInRing_129 ?_
        obtain ⟨b5, hq⟩ := k_if hq
        obtain ⟨e2, e3⟩ := k_so hq
        subst hQ
        have hP : va_P D vwCl (mW cI cZ h ad M) _ := hP
        have hD : va_D A (mW cI cZ h ad M) := hD
        refine W.widen (k := 0) (n := 0) (by decide) (by decide) ?_
        have hgE := congrArg (fun X : MS => X.2.2) e3
        have hgE : M.2.2 = M'.2.2 := hgE
        exact W.zret (v := (M.2.1 37) v1.toNatClampNeg) hx hb hr (congrArg Value.int b5) (fun t ht hW => ⟨⟨(M.2.1 37) v1.toNatClampNeg, (mW cI cZ h ad M, [(cI, .int), (cZ, .boolean)]), rfl, ⟨e2, (congrArg (fun X : MS => ((mW cI cZ h ad X, [(cI, .int), (cZ, .boolean)]) : va_W × List (ClassId × FieldType))) e3), by omega⟩, ⟨by rw [ht]; exact hP, va_K.moved hW.alike hK, hD⟩⟩, hS.F ht⟩) hS.2.2 dX4_isInRing_130
      · skip
        rw [if_neg c3] at hq
        refine lv_iconst (v := 0) hx hb dX4_isInRing_39 (by decide) ?_
        refine lv_istore (lv' := [(4, .int 0), (0, .ref h), (1, .int v1), (2, .int v2), (3, .int v3)]) hx hb dX4_isInRing_40 hl (by decide) rfl (fun ls hl => ?_)
        exact B42 (fun (v1 : Int32) (v2 : Int32) (v3 : Int32) (M : MS) => f_X4_isInRing_34  k v1 v2 v3 M) ih 200 v1 v2 v3 (0 : Int32) M  _ _ _ hq (by show M.2.2 = M0.2.2; omega) hP hD hS (lv_sub hl [1, 2, 3, 4, 0] rfl)
  have B2 : ∀  (k : Nat), ∀ (v1 : Int32) (v2 : Int32)  (M : MS)  (H : Heap) (locs : List Loc) (ls : Array Slot), f_X4_isInRing_2  k v1 v2 M = some (r', M') → M.2.2 = M0.2.2 → va_P D vwCl (mW cI cZ h ad M) H → va_D A (mW cI cZ h ad M) → va_S A s.heap H locs → lv_has ls 5 [(0, .ref h), (1, .int v1), (2, .int v2)] → W p l e (headSpec wsX4_isInRing ({ frames := 2, cells := 0, slots := 0, locals := 49 })).room s m ([.ref h, .int x1] : List Value).toArray below meth c H locs (0) (0) Q (F0 m 2 ls []) := by
    intro  k
    induction k with
    | zero =>
      intro v1 v2  M  H locs ls hq hg hP hD hS hl
      exact absurd hq (by rw [f_X4_isInRing_2]; exact k_non)
    | succ k ih =>
      intro v1 v2  M  H locs ls hq hg hP hD hS hl
      rw [f_X4_isInRing_2] at hq
      refine lv_iload_n hx hb dX4_isInRing_2 rfl (lv_at hl 2 rfl) ?_
      refine lv_aload_n hx hb dX4_isInRing_3 rfl (lv_at hl 0 rfl) ?_
      refine va_get (D := D) (ci := 4) (v := .int (M.1 7)) (C := RX4) (T := TX4) (N := 39) hx hb hts kin_X4_isInRing_X4 hown hK hP 0 rfl rfl 7 (by decide) (hts _ kw_X4_isInRing__fieldLink_RX4_111_ActHouseModel_acts_I_) (fun _ h9 => h9) rfl dX4_isInRing_4 ?_
      refine lv_icmp_ge (tgt := 23) hx hb dX4_isInRing_7 (by decide) (fun c1 => ?_) (fun c1 => ?_)
      · skip
        rw [if_pos c1] at hq
        refine lv_aload_n hx hb dX4_isInRing_23 rfl (lv_at hl 0 rfl) ?_
        refine va_get (D := D) (ci := 4) (v := .ref (ad 38)) (C := RX4) (T := TX4) (N := 39) hx hb hts kin_X4_isInRing_X4 hown hK hP 0 rfl rfl 38 (by decide) (hts _ kw_X4_isInRing__fieldLink_RX4_104_ActHouseModel_queue_I_) (fun _ h9 => h9) rfl dX4_isInRing_24 ?_
        refine lv_iconst (v := 0) hx hb dX4_isInRing_27 (by decide) ?_
        refine lv_iload_n hx hb dX4_isInRing_28 rfl (lv_at hl 1 rfl) ?_
        refine va_iast hx hb hK hP hD hS 32 0 (f := (M.2.1 38)) rfl rfl (x := v1) (k_in (by decide) (by decide)) dX4_isInRing_29 (fun H locs hP hD hS => ?_)
        obtain ⟨M2, eM2, hg2, hq⟩ := k_lA hq
        rw [mW_A38, ← eM2] at hP hD
        have hP : va_P D vwCl (mW cI cZ h ad M2) _ := hP
        have hD : va_D A (mW cI cZ h ad M2) := hD
        refine lv_iconst (v := 1) hx hb dX4_isInRing_30 (by decide) ?_
        refine lv_istore_n (lv' := [(2, .int 1), (0, .ref h), (1, .int v1)]) hx hb dX4_isInRing_31 rfl hl (by decide) rfl (fun ls hl => ?_)
        refine lv_iconst (v := 0) hx hb dX4_isInRing_32 (by decide) ?_
        refine lv_istore_n (lv' := [(3, .int 0), (2, .int 1), (0, .ref h), (1, .int v1)]) hx hb dX4_isInRing_33 rfl hl (by decide) rfl (fun ls hl => ?_)
        exact B34  200 v1 (1 : Int32) (0 : Int32) M2  _ _ _ hq (by show M2.2.2 = M0.2.2; omega) hP hD hS (lv_sub hl [2, 3, 1, 0] rfl)
      · skip
        rw [if_neg c1] at hq
        refine lv_aload_n hx hb dX4_isInRing_10 rfl (lv_at hl 0 rfl) ?_
        refine va_get (D := D) (ci := 4) (v := .ref (ad 37)) (C := RX4) (T := TX4) (N := 39) hx hb hts kin_X4_isInRing_X4 hown hK hP 0 rfl rfl 37 (by decide) (hts _ kw_X4_isInRing__fieldLink_RX4_101_ActHouseModel_isReached_Z_) (fun _ h9 => h9) rfl dX4_isInRing_11 ?_
        refine lv_iload_n hx hb dX4_isInRing_14 rfl (lv_at hl 2 rfl) ?_
        refine lv_iconst (v := 0) hx hb dX4_isInRing_15 (by decide) ?_
        obtain ⟨b17, hq⟩ := k_if hq
        refine va_zast hx hb hK hP hD hS 31 1 (f := (M.2.1 37)) rfl rfl (x := 0) (k_in b17.1 b17.2) dX4_isInRing_16 (fun H locs hP hD hS => ?_)
        obtain ⟨M18, eM18, hg18, hq⟩ := k_lA hq
        rw [mW_A37, k_nb0, ← eM18] at hP hD
        have hP : va_P D vwCl (mW cI cZ h ad M18) _ := hP
        have hD : va_D A (mW cI cZ h ad M18) := hD
        refine lv_iinc (v := v2 + 1) (lv' := [(2, .int (v2 + 1)), (0, .ref h), (1, .int v1)]) hx hb dX4_isInRing_17 hl (k := 2) rfl (by rfl) (by decide) rfl (fun ls hl => ?_)
        refine lv_goto (tgt := 2) hx hb dX4_isInRing_20 (by decide) ?_
        exact ih v1 (v2 + 1) M18  _ _ _ hq (by show M18.2.2 = M0.2.2; omega) hP hD hS (lv_sub hl [1, 2, 0] rfl)
  have hq := hf
  rw [f_X4_isInRing] at hq
  refine lv_iconst (v := 0) hx hb dX4_isInRing_0 (by decide) ?_
  refine lv_istore_n (lv' := [(2, .int 0), (0, .ref h), (1, .int x1)]) hx hb dX4_isInRing_1 rfl hl (by decide) rfl (fun ls hl => ?_)
  exact B2  200 x1 (0 : Int32) M0  _ _ _ hq (by show M0.2.2 = M0.2.2; omega) hP hD hS (lv_sub hl [1, 2, 0] rfl)
set_option maxRecDepth 100000 in
theorem kw_X4_isDone__fieldLink_RX4_37_ActHouseModel_state_I_ : (.fieldLink RX4 37 "ActHouseModel" "state" "[I" : Cond) ∈ wsX4_isDone := by decide +kernel
set_option maxRecDepth 100000 in
theorem kin_X4_isDone_X4 : ∀ w ∈ u_ws RX4 TX4 39, w ∈ wsX4_isDone := by decide +kernel
set_option maxRecDepth 100000 in
theorem kw_X4_isDone__fieldLink_RX4_56_ActHouseModel_doneIn_I_ : (.fieldLink RX4 56 "ActHouseModel" "doneIn" "[I" : Cond) ∈ wsX4_isDone := by decide +kernel
set_option maxRecDepth 100000 in
theorem kw_X4_isDone__fieldLink_RX4_130_ActHouseModel_now_I_ : (.fieldLink RX4 130 "ActHouseModel" "now" "I" : Cond) ∈ wsX4_isDone := by decide +kernel
set_option maxRecDepth 100000 in
theorem kw_X4_isDone__fieldLink_RX4_92_ActHouseModel_done_I_ : (.fieldLink RX4 92 "ActHouseModel" "done" "[I" : Cond) ∈ wsX4_isDone := by decide +kernel
set_option maxRecDepth 100000 in
theorem kw_X4_isDone__fieldLink_RX4_168_ActHouseModel_dones_I_ : (.fieldLink RX4 168 "ActHouseModel" "dones" "I" : Cond) ∈ wsX4_isDone := by decide +kernel
set_option maxRecDepth 100000 in
theorem kw_X4_isDone__fieldLink_RX4_89_ActHouseModel_queuedMany_I_ : (.fieldLink RX4 89 "ActHouseModel" "queuedMany" "[I" : Cond) ∈ wsX4_isDone := by decide +kernel
set_option maxRecDepth 100000 in
theorem kw_X4_isDone__fieldLink_RX4_86_ActHouseModel_queued_I_ : (.fieldLink RX4 86 "ActHouseModel" "queued" "[I" : Cond) ∈ wsX4_isDone := by decide +kernel
set_option maxRecDepth 100000 in
theorem kw_X4_isDone__fieldLink_RX4_31_ActHouseModel_kind_I_ : (.fieldLink RX4 31 "ActHouseModel" "kind" "[I" : Cond) ∈ wsX4_isDone := by decide +kernel
set_option maxRecDepth 100000 in
theorem kw_X4_isDone__fieldLink_RX4_34_ActHouseModel_rank_I_ : (.fieldLink RX4 34 "ActHouseModel" "rank" "[I" : Cond) ∈ wsX4_isDone := by decide +kernel
def f_X4_isDone_56  : Nat → Int32 → Int32 → MS → Option (Int32 × MS)
  | 0, _, _, _ => none
  | k + 1, v1, v2, M => (if 0 ≤ v1.toInt ∧ v1.toInt < 80 then (if ((M.2.1 28) v1.toNatClampNeg) ≤ v2 then some ((0 : Int32), M) else (if 0 ≤ ((12 * v1) + v2).toInt ∧ ((12 * v1) + v2).toInt < 960 then (k_bind (f_X4_newAct ((M.2.1 27) ((12 * v1) + v2).toNatClampNeg) ((M.2.1 9) v1.toNatClampNeg) ((M.2.1 10) v1.toNatClampNeg) v1 M) fun r13 M13 => f_X4_isDone_56  k v1 (v2 + 1) M13) else none)) else none)
def f_X4_isDone (x1 : Int32) (M0 : MS) : Option (Int32 × MS) := (k_bind (f_X4_lets x1 M0) fun r1 M1 => (if 0 ≤ x1.toInt ∧ x1.toInt < 80 then (k_let (mA M1 11 x1.toNatClampNeg (2 : Int32)) fun M3 => (k_let (mA M3 17 x1.toNatClampNeg (M3.1 0)) fun M4 => (k_bind (f_X4_logs (2 : Int32) x1 ((-1) : Int32) M4) fun r5 M5 => (if 0 ≤ (M5.1 29).toInt ∧ (M5.1 29).toInt < 80 then (k_let (mA M5 30 ((M5.1 29).toNatClampNeg) x1) fun M7 => (k_let (mI M7 29 ((M7.1 29) + 1)) fun M8 => (k_bind (f_X4_gets x1 M8) fun r9 M9 => f_X4_isDone_56  200 x1 (0 : Int32) M9))) else none)))) else none))
set_option maxHeartbeats 4000000 in
set_option maxRecDepth 100000 in
theorem c_X4_isDone {l : Launch} {D : va_G} {hp : Heap} {cI cZ : ClassId} {h : Nat} {ad : Nat → Nat} {M0 M' : MS} {x1 r' : Int32} (hg : M0.2.2 ≤ 2048000) (hf : f_X4_isDone x1 M0 = some (r', M')) : Met l yX4_isDone wsX4_isDone ({ frames := 1, cells := (2048000 - M0.2.2) / 4000, slots := 2 * (2048000 - M0.2.2), locals := 25 }) (va_Pc [.ref h, .int x1] (k_PreH D [(cI, .int), (cZ, .boolean)] (mW cI cZ h ad M0) hp)) (va_Qv (fun (u : va_W × List (ClassId × FieldType)) => ∃ ad' : Nat → Nat, u = (mW cI cZ h ad' M', [(cI, .int), (cZ, .boolean)]) ∧ M0.2.2 ≤ M'.2.2 ∧ M'.2.2 ≤ 2048000) (k_BM D (va_A (mW cI cZ h ad M0) hp.size) hp ((M'.2.2 - M0.2.2) / 4000) (2 * (M'.2.2 - M0.2.2))) (va_A (mW cI cZ h ad M0) hp.size)) ((2048000 - M0.2.2) / 4000) (2 * (2048000 - M0.2.2)) (va_A (mW cI cZ h ad M0) hp.size) := by
  refine Met.ofW (cc := cX4_isDone) (maxL := 3) (ret := none) (by decide) rfl ?_
  intro p e s m args below meth c s₁ B hml hv
  obtain ⟨rfl, hsz, hP, hK, hD0⟩ := hv
  have hx := B.exec
  have hb := B.bytes
  have hr := B.returns
  have hts := atoms_spec (ws := wsX4_isDone) B.pre
  have hown : s.vm.findClass RX4 = some m.cls := findClass_of_methodNamed B.named
  have hlocks := B.notSynchronized
  have hsz : s.heap = hp := hsz
  subst hsz
  have hD := hD0.self (sz := s.heap.size)
  generalize hAe : va_A (mW cI cZ h ad M0) s.heap.size = A at hD ⊢
  have hA : ∀ q : Nat, s.heap.size ≤ q → A q := fun q h => by rw [← hAe]; exact Or.inr h
  have hS : va_S A s.heap s.heap [] := va_S.rf
  have hl := lv_entry ([.ref h, .int x1]) (n := 3) (Nat.le_of_ble_eq_true rfl)
  rw [lg_entry_eq]
  generalize (lg_sl ([.ref h, .int x1]) ++ List.replicate (3 - (lg_sl ([.ref h, .int x1])).length) Slot.unset).toArray = ls at hl ⊢
  have hl : lv_has ls 3 [(0, .ref h), (1, .int x1)] := hl
  refine k_Q (fun Q hQ => ?_)
  have B56 : ∀  (k : Nat), ∀ (v1 : Int32) (v2 : Int32)  (M : MS) (ad : Nat → Nat) (H : Heap) (locs : List Loc) (ls : Array Slot), f_X4_isDone_56  k v1 v2 M = some (r', M') → (M0.2.2 ≤ M.2.2 ∧ M.2.2 ≤ 2048000) → va_P D vwCl (mW cI cZ h ad M) H → va_D A (mW cI cZ h ad M) → va_S A s.heap H locs → lv_has ls 3 [(0, .ref h), (1, .int v1), (2, .int v2)] → W p l e (headSpec wsX4_isDone ({ frames := 1, cells := (2048000 - M0.2.2) / 4000, slots := 2 * (2048000 - M0.2.2), locals := 25 })).room s m ([.ref h, .int x1] : List Value).toArray below meth c H locs (((M.2.2 - M0.2.2) / 4000)) ((2 * (M.2.2 - M0.2.2))) Q (F0 m 56 ls []) := by
    intro  k
    induction k with
    | zero =>
      intro v1 v2  M ad H locs ls hq hg hP hD hS hl
      exact absurd hq (by rw [f_X4_isDone_56]; exact k_non)
    | succ k ih =>
      intro v1 v2  M ad H locs ls hq hg hP hD hS hl
      rw [f_X4_isDone_56] at hq
      refine lv_iload_n hx hb dX4_isDone_56 rfl (lv_at hl 2 rfl) ?_
      refine lv_aload_n hx hb dX4_isDone_57 rfl (lv_at hl 0 rfl) ?_
      refine va_get (D := D) (ci := 4) (v := .ref (ad 28)) (C := RX4) (T := TX4) (N := 39) hx hb hts kin_X4_isDone_X4 hown hK hP 0 rfl rfl 28 (by decide) (hts _ kw_X4_isDone__fieldLink_RX4_89_ActHouseModel_queuedMany_I_) (fun _ h9 => h9) rfl dX4_isDone_58 ?_
      refine lv_iload_n hx hb dX4_isDone_61 rfl (lv_at hl 1 rfl) ?_
      obtain ⟨b10, hq⟩ := k_if hq
      refine va_iald hx hb hK hP 27 0 (f := (M.2.1 28)) rfl rfl (k_in b10.1 b10.2) dX4_isDone_62 ?_
      refine lv_icmp_ge (tgt := 101) hx hb dX4_isDone_63 (by decide) (fun c11 => ?_) (fun c11 => ?_)
      · skip
        rw [if_pos c11] at hq
        obtain ⟨e2, e3⟩ := k_so hq
        subst hQ
        have hP : va_P D vwCl (mW cI cZ h ad M) _ := hP
        have hD : va_D A (mW cI cZ h ad M) := hD
        have hgE := congrArg (fun X : MS => X.2.2) e3
        have hgE : M.2.2 = M'.2.2 := hgE
        refine k_facts (fun hm1 hm2 hm3 => ?_)
        refine W.widen (k := (2048000 - M0.2.2) / 4000) (n := 2 * (2048000 - M0.2.2)) (by omega) (by omega) ?_
        exact W.vret hx hb hr (fun t ht hW => ⟨⟨(mW cI cZ h ad M, [(cI, .int), (cZ, .boolean)]), rfl, ⟨ad, (congrArg (fun X : MS => ((mW cI cZ h ad X, [(cI, .int), (cZ, .boolean)]) : va_W × List (ClassId × FieldType))) e3), by omega, by omega⟩, ⟨⟨by rw [ht]; exact hP, va_K.moved hW.alike hK, hD⟩, by rw [ht]; exact hm3, by rw [ht]; omega, by rw [ht]; omega⟩⟩, hS.F ht⟩) hS.2.2 dX4_isDone_101
      · skip
        rw [if_neg c11] at hq
        refine lv_aload_n hx hb dX4_isDone_66 rfl (lv_at hl 0 rfl) ?_
        refine lv_aload_n hx hb dX4_isDone_67 rfl (lv_at hl 0 rfl) ?_
        refine va_get (D := D) (ci := 4) (v := .ref (ad 27)) (C := RX4) (T := TX4) (N := 39) hx hb hts kin_X4_isDone_X4 hown hK hP 0 rfl rfl 27 (by decide) (hts _ kw_X4_isDone__fieldLink_RX4_86_ActHouseModel_queued_I_) (fun _ h9 => h9) rfl dX4_isDone_68 ?_
        refine lv_bipush (v := 12) hx hb dX4_isDone_71 (by decide) ?_
        refine lv_iload_n hx hb dX4_isDone_73 rfl (lv_at hl 1 rfl) ?_
        refine lv_imul hx hb dX4_isDone_74 ?_
        refine lv_iload_n hx hb dX4_isDone_75 rfl (lv_at hl 2 rfl) ?_
        refine lv_iadd hx hb dX4_isDone_76 ?_
        obtain ⟨b12, hq⟩ := k_if hq
        refine va_iald hx hb hK hP 26 0 (f := (M.2.1 27)) rfl rfl (k_in b12.1 b12.2) dX4_isDone_77 ?_
        refine lv_aload_n hx hb dX4_isDone_78 rfl (lv_at hl 0 rfl) ?_
        refine va_get (D := D) (ci := 4) (v := .ref (ad 9)) (C := RX4) (T := TX4) (N := 39) hx hb hts kin_X4_isDone_X4 hown hK hP 0 rfl rfl 9 (by decide) (hts _ kw_X4_isDone__fieldLink_RX4_31_ActHouseModel_kind_I_) (fun _ h9 => h9) rfl dX4_isDone_79 ?_
        refine lv_iload_n hx hb dX4_isDone_82 rfl (lv_at hl 1 rfl) ?_
        refine va_iald hx hb hK hP 8 0 (f := (M.2.1 9)) rfl rfl (k_in b10.1 b10.2) dX4_isDone_83 ?_
        refine lv_aload_n hx hb dX4_isDone_84 rfl (lv_at hl 0 rfl) ?_
        refine va_get (D := D) (ci := 4) (v := .ref (ad 10)) (C := RX4) (T := TX4) (N := 39) hx hb hts kin_X4_isDone_X4 hown hK hP 0 rfl rfl 10 (by decide) (hts _ kw_X4_isDone__fieldLink_RX4_34_ActHouseModel_rank_I_) (fun _ h9 => h9) rfl dX4_isDone_85 ?_
        refine lv_iload_n hx hb dX4_isDone_88 rfl (lv_at hl 1 rfl) ?_
        refine va_iald hx hb hK hP 9 0 (f := (M.2.1 10)) rfl rfl (k_in b10.1 b10.2) dX4_isDone_89 ?_
        refine lv_iload_n hx hb dX4_isDone_90 rfl (lv_at hl 1 rfl) ?_
        obtain ⟨q13, M13, h13, hq⟩ := k_bd hq
        have hFc := k_free hD hS hA
        refine va_calli (va_runV (As := [.int ((M.2.1 27) ((12 * v1) + v2).toNatClampNeg), .int ((M.2.1 9) v1.toNatClampNeg), .int ((M.2.1 10) v1.toNatClampNeg), .int v1]) (rest := []) ⟨hx, hb, hml, hown, hts⟩ (c_X4_newAct (l := l) (D := D) (cI := cI) (cZ := cZ) (h := h) (ad := ad)  (hf := h13)) (cwV 4 hts gX4_isDone_X4_newAct rfl rfl rfl (by decide +kernel) ⟨Nat.le_of_ble_eq_true rfl, Nat.le_of_ble_eq_true rfl⟩) ⟨k_blind, va_recv hK hP (ci := 4) (q0 := 0) rfl rfl, fun U hU hW => ⟨rfl, k_pre hU hW hP hK hD⟩⟩ rfl rfl hl.1 rfl (lv_room (Nat.le_of_ble_eq_true rfl)) dX4_isDone_91 ⟨by show (M.2.2 - M0.2.2) / 4000 + 0 ≤ (2048000 - M0.2.2) / 4000; omega, by show 2 * (M.2.2 - M0.2.2) + 0 ≤ 2 * (2048000 - M0.2.2); omega⟩) hS (fun q _ h => hFc q h) hFc (fun r13 u t H1 locs ht hvm hw hB hz1 hk1 hS => ?_)
        obtain ⟨rfl, rfl, hg13⟩ := hw
        have hg13 : M13.2.2 = M.2.2 := hg13
        refine W.widen (k := ((M13.2.2 - M0.2.2) / 4000)) (n := (2 * (M13.2.2 - M0.2.2))) (by omega) (by omega) ?_
        obtain ⟨hP1, hK1, hD1⟩ := hB
        rw [ht] at hP1
        have hP := hP1
        have hD := k_weak hD1 hFc
        generalize H1 = H at hP hS ⊢
        have hP : va_P D vwCl (mW cI cZ h ad M13) _ := hP
        have hD : va_D A (mW cI cZ h ad M13) := hD
        refine lv_pop hx hb dX4_isDone_94 rfl ?_
        refine lv_iinc (v := v2 + 1) (lv' := [(2, .int (v2 + 1)), (0, .ref h), (1, .int v1)]) hx hb dX4_isDone_95 hl (k := 2) rfl (by rfl) (by decide) rfl (fun ls hl => ?_)
        refine lv_goto (tgt := 56) hx hb dX4_isDone_98 (by decide) ?_
        exact ih v1 (v2 + 1) M13 ad _ _ _ hq (by show M0.2.2 ≤ M13.2.2 ∧ M13.2.2 ≤ 2048000; omega) hP hD hS (lv_sub hl [1, 2, 0] rfl)
  refine W.widen (k := ((M0.2.2 - M0.2.2) / 4000)) (n := (2 * (M0.2.2 - M0.2.2))) (by omega) (by omega) ?_
  have hq := hf
  rw [f_X4_isDone] at hq
  refine lv_aload_n hx hb dX4_isDone_0 rfl (lv_at hl 0 rfl) ?_
  refine lv_iload_n hx hb dX4_isDone_1 rfl (lv_at hl 1 rfl) ?_
  obtain ⟨r1, M1, h1, hq⟩ := k_bd hq
  have hFc := k_free hD hS hA
  refine va_callv (va_runV (As := [.int x1]) (rest := []) ⟨hx, hb, hml, hown, hts⟩ (c_X4_lets (l := l) (D := D) (cI := cI) (cZ := cZ) (h := h) (ad := ad)  (hf := h1)) (cwV 1 hts gX4_isDone_X4_lets rfl rfl rfl (by decide +kernel) ⟨Nat.le_of_ble_eq_true rfl, Nat.le_of_ble_eq_true rfl⟩) ⟨k_blind, va_recv hK hP (ci := 4) (q0 := 0) rfl rfl, fun U hU hW => ⟨rfl, k_pre hU hW hP hK hD⟩⟩ rfl rfl hl.1 rfl (lv_room (Nat.le_of_ble_eq_true rfl)) dX4_isDone_2 ⟨by show (M0.2.2 - M0.2.2) / 4000 + 0 ≤ (2048000 - M0.2.2) / 4000; omega, by show 2 * (M0.2.2 - M0.2.2) + 0 ≤ 2 * (2048000 - M0.2.2); omega⟩) hS (fun q _ h => hFc q h) hFc (fun u t H1 locs ht hvm hw hB hz1 hk1 hS => ?_)
  obtain ⟨rfl, hg1⟩ := hw
  have hg1 : M1.2.2 = M0.2.2 := hg1
  refine W.widen (k := ((M1.2.2 - M0.2.2) / 4000)) (n := (2 * (M1.2.2 - M0.2.2))) (by omega) (by omega) ?_
  obtain ⟨hP1, hK1, hD1⟩ := hB
  rw [ht] at hP1
  have hP := hP1
  have hD := k_weak hD1 hFc
  generalize H1 = H at hP hS ⊢
  have hP : va_P D vwCl (mW cI cZ h ad M1) _ := hP
  have hD : va_D A (mW cI cZ h ad M1) := hD
  refine lv_aload_n hx hb dX4_isDone_5 rfl (lv_at hl 0 rfl) ?_
  refine va_get (D := D) (ci := 4) (v := .ref (ad 11)) (C := RX4) (T := TX4) (N := 39) hx hb hts kin_X4_isDone_X4 hown hK hP 0 rfl rfl 11 (by decide) (hts _ kw_X4_isDone__fieldLink_RX4_37_ActHouseModel_state_I_) (fun _ h9 => h9) rfl dX4_isDone_6 ?_
  refine lv_iload_n hx hb dX4_isDone_9 rfl (lv_at hl 1 rfl) ?_
  refine lv_iconst (v := 2) hx hb dX4_isDone_10 (by decide) ?_
  obtain ⟨b2, hq⟩ := k_if hq
  refine va_iast hx hb hK hP hD hS 10 0 (f := (M1.2.1 11)) rfl rfl (x := 2) (k_in b2.1 b2.2) dX4_isDone_11 (fun H locs hP hD hS => ?_)
  obtain ⟨M3, eM3, hg3, hq⟩ := k_lA hq
  rw [mW_A11, ← eM3] at hP hD
  have hP : va_P D vwCl (mW cI cZ h ad M3) _ := hP
  have hD : va_D A (mW cI cZ h ad M3) := hD
  refine W.widen (k := ((M3.2.2 - M0.2.2) / 4000)) (n := (2 * (M3.2.2 - M0.2.2))) (by omega) (by omega) ?_
  refine lv_aload_n hx hb dX4_isDone_12 rfl (lv_at hl 0 rfl) ?_
  refine va_get (D := D) (ci := 4) (v := .ref (ad 17)) (C := RX4) (T := TX4) (N := 39) hx hb hts kin_X4_isDone_X4 hown hK hP 0 rfl rfl 17 (by decide) (hts _ kw_X4_isDone__fieldLink_RX4_56_ActHouseModel_doneIn_I_) (fun _ h9 => h9) rfl dX4_isDone_13 ?_
  refine lv_iload_n hx hb dX4_isDone_16 rfl (lv_at hl 1 rfl) ?_
  refine lv_aload_n hx hb dX4_isDone_17 rfl (lv_at hl 0 rfl) ?_
  refine va_get (D := D) (ci := 4) (v := .int (M3.1 0)) (C := RX4) (T := TX4) (N := 39) hx hb hts kin_X4_isDone_X4 hown hK hP 0 rfl rfl 0 (by decide) (hts _ kw_X4_isDone__fieldLink_RX4_130_ActHouseModel_now_I_) (fun _ h9 => h9) rfl dX4_isDone_18 ?_
  refine va_iast hx hb hK hP hD hS 16 0 (f := (M3.2.1 17)) rfl rfl (x := (M3.1 0)) (k_in b2.1 b2.2) dX4_isDone_21 (fun H locs hP hD hS => ?_)
  obtain ⟨M4, eM4, hg4, hq⟩ := k_lA hq
  rw [mW_A17, ← eM4] at hP hD
  have hP : va_P D vwCl (mW cI cZ h ad M4) _ := hP
  have hD : va_D A (mW cI cZ h ad M4) := hD
  refine W.widen (k := ((M4.2.2 - M0.2.2) / 4000)) (n := (2 * (M4.2.2 - M0.2.2))) (by omega) (by omega) ?_
  refine lv_aload_n hx hb dX4_isDone_22 rfl (lv_at hl 0 rfl) ?_
  refine lv_iconst (v := 2) hx hb dX4_isDone_23 (by decide) ?_
  refine lv_iload_n hx hb dX4_isDone_24 rfl (lv_at hl 1 rfl) ?_
  refine lv_iconst (v := (-1)) hx hb dX4_isDone_25 (by decide) ?_
  obtain ⟨r5, M5, h5, hq⟩ := k_bd hq
  have hFc := k_free hD hS hA
  refine k_facts (fun hn1 hn2 hn3 => ?_)
  refine va_callv (va_runV (As := [.int 2, .int x1, .int (-1)]) (rest := []) ⟨hx, hb, hml, hown, hts⟩ (c_X4_logs (l := l) (D := D) (cI := cI) (cZ := cZ) (h := h) (ad := ad)  (hg := by show M4.2.2 ≤ 2048000; omega) (hf := h5)) (cwV 3 hts gX4_isDone_X4_logs rfl rfl rfl (by decide +kernel) ⟨Nat.le_of_ble_eq_true rfl, Nat.le_of_ble_eq_true rfl⟩) ⟨k_blindH, va_recv hK hP (ci := 4) (q0 := 0) rfl rfl, fun U hU hW => ⟨rfl, k_preH hU hW hP hK hD⟩⟩ rfl rfl hl.1 rfl (lv_room (Nat.le_of_ble_eq_true rfl)) dX4_isDone_26 ⟨by show (M4.2.2 - M0.2.2) / 4000 + (2048000 - M4.2.2) / 4000 ≤ (2048000 - M0.2.2) / 4000; omega, by show 2 * (M4.2.2 - M0.2.2) + 2 * (2048000 - M4.2.2) ≤ 2 * (2048000 - M0.2.2); omega⟩) hS (fun q _ h => hFc q h) hFc (fun u t H1 locs ht hvm hw hB hz1 hk1 hS => ?_)
  obtain ⟨ad, rfl, hg5, hh5⟩ := hw
  have hg5 : M4.2.2 ≤ M5.2.2 := hg5
  obtain ⟨hB, hz2, hz3, hz4⟩ := hB
  rw [ht] at hz2 hz3 hz4
  refine k_tight (k := ((M5.2.2 - M0.2.2) / 4000)) (n := (2 * (M5.2.2 - M0.2.2))) (by omega) (by rw [k_nS_tr hn3.1 hz2]; omega) ?_
  obtain ⟨hP1, hK1, hD1⟩ := hB
  rw [ht] at hP1
  have hP := hP1
  have hD := k_weak hD1 hFc
  generalize H1 = H at hP hS ⊢
  have hP : va_P D vwCl (mW cI cZ h ad M5) _ := hP
  have hD : va_D A (mW cI cZ h ad M5) := hD
  refine lv_aload_n hx hb dX4_isDone_29 rfl (lv_at hl 0 rfl) ?_
  refine va_get (D := D) (ci := 4) (v := .ref (ad 30)) (C := RX4) (T := TX4) (N := 39) hx hb hts kin_X4_isDone_X4 hown hK hP 0 rfl rfl 30 (by decide) (hts _ kw_X4_isDone__fieldLink_RX4_92_ActHouseModel_done_I_) (fun _ h9 => h9) rfl dX4_isDone_30 ?_
  refine lv_aload_n hx hb dX4_isDone_33 rfl (lv_at hl 0 rfl) ?_
  refine va_get (D := D) (ci := 4) (v := .int (M5.1 29)) (C := RX4) (T := TX4) (N := 39) hx hb hts kin_X4_isDone_X4 hown hK hP 0 rfl rfl 29 (by decide) (hts _ kw_X4_isDone__fieldLink_RX4_168_ActHouseModel_dones_I_) (fun _ h9 => h9) rfl dX4_isDone_34 ?_
  refine lv_iload_n hx hb dX4_isDone_37 rfl (lv_at hl 1 rfl) ?_
  obtain ⟨b6, hq⟩ := k_if hq
  refine va_iast hx hb hK hP hD hS 28 0 (f := (M5.2.1 30)) rfl rfl (x := x1) (k_in b6.1 b6.2) dX4_isDone_38 (fun H locs hP hD hS => ?_)
  obtain ⟨M7, eM7, hg7, hq⟩ := k_lA hq
  rw [mW_A30, ← eM7] at hP hD
  have hP : va_P D vwCl (mW cI cZ h ad M7) _ := hP
  have hD : va_D A (mW cI cZ h ad M7) := hD
  refine W.widen (k := ((M7.2.2 - M0.2.2) / 4000)) (n := (2 * (M7.2.2 - M0.2.2))) (by omega) (by omega) ?_
  refine lv_aload_n hx hb dX4_isDone_39 rfl (lv_at hl 0 rfl) ?_
  refine lv_dup hx hb dX4_isDone_40 rfl ?_
  refine va_get (D := D) (ci := 4) (v := .int (M7.1 29)) (C := RX4) (T := TX4) (N := 39) hx hb hts kin_X4_isDone_X4 hown hK hP 0 rfl rfl 29 (by decide) (hts _ kw_X4_isDone__fieldLink_RX4_168_ActHouseModel_dones_I_) (fun _ h9 => h9) rfl dX4_isDone_41 ?_
  refine lv_iconst (v := 1) hx hb dX4_isDone_44 (by decide) ?_
  refine lv_iadd hx hb dX4_isDone_45 ?_
  refine va_put (D := D) (ci := 4) (v := .int ((M7.1 29) + 1)) (ty := .int) (C := RX4) (T := TX4) (N := 39) hx hb hts kin_X4_isDone_X4 tyX4 tyX4_ok nmX4 hown hK hP hD hS 0 (fs := mF ad M7) rfl rfl 29 (by decide) (hts _ kw_X4_isDone__fieldLink_RX4_168_ActHouseModel_dones_I_) (fun _ h9 => h9) rfl (by decide +kernel) rfl rfl (Nat.le_of_ble_eq_true rfl) dX4_isDone_46 (fun H locs hP hD hS => ?_)
  obtain ⟨M8, eM8, hg8, hq⟩ := k_lI hq
  rw [mW_I29, ← eM8] at hP hD
  have hP : va_P D vwCl (mW cI cZ h ad M8) _ := hP
  have hD : va_D A (mW cI cZ h ad M8) := hD
  refine W.widen (k := ((M8.2.2 - M0.2.2) / 4000)) (n := (2 * (M8.2.2 - M0.2.2))) (by omega) (by omega) ?_
  refine lv_aload_n hx hb dX4_isDone_49 rfl (lv_at hl 0 rfl) ?_
  refine lv_iload_n hx hb dX4_isDone_50 rfl (lv_at hl 1 rfl) ?_
  obtain ⟨r9, M9, h9, hq⟩ := k_bd hq
  have hFc := k_free hD hS hA
  refine va_callv (va_runV (As := [.int x1]) (rest := []) ⟨hx, hb, hml, hown, hts⟩ (c_X4_gets (l := l) (D := D) (cI := cI) (cZ := cZ) (h := h) (ad := ad)  (hf := h9)) (cwV 1 hts gX4_isDone_X4_gets rfl rfl rfl (by decide +kernel) ⟨Nat.le_of_ble_eq_true rfl, Nat.le_of_ble_eq_true rfl⟩) ⟨k_blind, va_recv hK hP (ci := 4) (q0 := 0) rfl rfl, fun U hU hW => ⟨rfl, k_pre hU hW hP hK hD⟩⟩ rfl rfl hl.1 rfl (lv_room (Nat.le_of_ble_eq_true rfl)) dX4_isDone_51 ⟨by show (M8.2.2 - M0.2.2) / 4000 + 0 ≤ (2048000 - M0.2.2) / 4000; omega, by show 2 * (M8.2.2 - M0.2.2) + 0 ≤ 2 * (2048000 - M0.2.2); omega⟩) hS (fun q _ h => hFc q h) hFc (fun u t H1 locs ht hvm hw hB hz1 hk1 hS => ?_)
  obtain ⟨rfl, hg9⟩ := hw
  have hg9 : M9.2.2 = M8.2.2 := hg9
  refine W.widen (k := ((M9.2.2 - M0.2.2) / 4000)) (n := (2 * (M9.2.2 - M0.2.2))) (by omega) (by omega) ?_
  obtain ⟨hP1, hK1, hD1⟩ := hB
  rw [ht] at hP1
  have hP := hP1
  have hD := k_weak hD1 hFc
  generalize H1 = H at hP hS ⊢
  have hP : va_P D vwCl (mW cI cZ h ad M9) _ := hP
  have hD : va_D A (mW cI cZ h ad M9) := hD
  refine lv_iconst (v := 0) hx hb dX4_isDone_54 (by decide) ?_
  refine lv_istore_n (lv' := [(2, .int 0), (0, .ref h), (1, .int x1)]) hx hb dX4_isDone_55 rfl hl (by decide) rfl (fun ls hl => ?_)
  exact B56  200 x1 (0 : Int32) M9 ad _ _ _ hq (by show M0.2.2 ≤ M9.2.2 ∧ M9.2.2 ≤ 2048000; omega) hP hD hS (lv_sub hl [1, 2, 0] rfl)
