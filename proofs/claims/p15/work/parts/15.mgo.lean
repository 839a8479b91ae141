set_option maxRecDepth 100000 in
theorem kw_X4_go__fieldLink_RX4_130_ActHouseModel_now_I_ : (.fieldLink RX4 130 "ActHouseModel" "now" "I" : Cond) ∈ wsX4_go := by decide +kernel
set_option maxRecDepth 100000 in
theorem kin_X4_go_X4 : ∀ w ∈ u_ws RX4 TX4 39, w ∈ wsX4_go := by decide +kernel
set_option maxRecDepth 100000 in
theorem kw_X4_go__fieldLink_RX4_98_ActHouseModel_order_I_ : (.fieldLink RX4 98 "ActHouseModel" "order" "[I" : Cond) ∈ wsX4_go := by decide +kernel
def f_X4_go_84 (K15 : Int32 → Int32 → MS → Option (Int32 × MS)) (v1 : Int32) (v2 : Int32)  (M : MS) : Option (Int32 × MS) := (k_let (mI M 0 ((M.1 0) + 1)) fun M10 => K15 v1 (v2 + 1) M10)
def f_X4_go_39 (K15 : Int32 → Int32 → MS → Option (Int32 × MS)) : Nat → Int32 → Int32 → Int32 → Int32 → MS → Option (Int32 × MS)
  | 0, _, _, _, _, _ => none
  | k + 1, v1, v2, v3, v4, M => (if v3 ≤ v4 then (k_bind (f_X4_breaks M) fun r7 M7 => (k_bind (f_X4_begins M7) fun r8 M8 => (if ((M8.1 0) - (M8.1 0) / 4 * 4) = 3 then (k_bind (f_X4_keeps M8) fun r11 M11 => f_X4_go_84 K15 v1 v2 M11) else f_X4_go_84 K15 v1 v2 M8))) else (if 0 ≤ v4.toInt ∧ v4.toInt < 80 then (k_bind (f_X4_does ((M.2.1 36) v4.toNatClampNeg) M) fun r13 M13 => f_X4_go_39 K15 k v1 v2 v3 (v4 + 1) M13) else none))
def f_X4_go_15  : Nat → Int32 → Int32 → MS → Option (Int32 × MS)
  | 0, _, _, _ => none
  | k + 1, v1, v2, M => (if v1 ≤ v2 then some ((M.1 0), M) else (if 5000 ≤ (M.1 0) then some ((M.1 0), M) else (k_bind (f_X4_sorts (1 : Int32) M) fun r5 M5 => f_X4_go_39 (fun (v1 : Int32) (v2 : Int32) (M : MS) => f_X4_go_15  k v1 v2 M) 300 v1 v2 r5 (0 : Int32) M5)))
def f_X4_go (x1 : Int32) (M0 : MS) : Option (Int32 × MS) := (if (f_X4_in x1 (0 : Int32) (200 : Int32)) = 0 then some (((-1) : Int32), M0) else f_X4_go_15  300 x1 (0 : Int32) M0)
set_option maxHeartbeats 4000000 in
set_option maxRecDepth 100000 in
theorem c_X4_go {l : Launch} {D : va_G} {hp : Heap} {cI cZ : ClassId} {h : Nat} {ad : Nat → Nat} {M0 M' : MS} {x1 r' : Int32} (hg : M0.2.2 ≤ 2048000) (hf : f_X4_go x1 M0 = some (r', M')) : Met l yX4_go wsX4_go ({ frames := 4, cells := (2048000 - M0.2.2) / 4000, slots := 2 * (2048000 - M0.2.2), locals := 99 }) (va_Pc [.ref h, .int x1] (k_PreH D [(cI, .int), (cZ, .boolean)] (mW cI cZ h ad M0) hp)) (va_Qi (fun (r0 : Int32) (u : va_W × List (ClassId × FieldType)) => ∃ ad' : Nat → Nat, r0 = r' ∧ u = (mW cI cZ h ad' M', [(cI, .int), (cZ, .boolean)]) ∧ M0.2.2 ≤ M'.2.2 ∧ M'.2.2 ≤ 2048000) (k_BM D (va_A (mW cI cZ h ad M0) hp.size) hp ((M'.2.2 - M0.2.2) / 4000) (2 * (M'.2.2 - M0.2.2))) (va_A (mW cI cZ h ad M0) hp.size)) ((2048000 - M0.2.2) / 4000) (2 * (2048000 - M0.2.2)) (va_A (mW cI cZ h ad M0) hp.size) := by
  refine Met.ofW (cc := cX4_go) (maxL := 5) (ret := (some .int)) (by decide) rfl ?_
  intro p e s m args below meth c s₁ B hml hv
  obtain ⟨rfl, hsz, hP, hK, hD0⟩ := hv
  have hx := B.exec
  have hb := B.bytes
  have hr := B.returns
  have hts := atoms_spec (ws := wsX4_go) B.pre
  have hown : s.vm.findClass RX4 = some m.cls := findClass_of_methodNamed B.named
  have hlocks := B.notSynchronized
  have hsz : s.heap = hp := hsz
  subst hsz
  have hD := hD0.self (sz := s.heap.size)
  generalize hAe : va_A (mW cI cZ h ad M0) s.heap.size = A at hD ⊢
  have hA : ∀ q : Nat, s.heap.size ≤ q → A q := fun q h => by rw [← hAe]; exact Or.inr h
  have hS : va_S A s.heap s.heap [] := va_S.rf
  have hl := lv_entry ([.ref h, .int x1]) (n := 5) (Nat.le_of_ble_eq_true rfl)
  rw [lg_entry_eq]
  generalize (lg_sl ([.ref h, .int x1]) ++ List.replicate (5 - (lg_sl ([.ref h, .int x1])).length) Slot.unset).toArray = ls at hl ⊢
  have hl : lv_has ls 5 [(0, .ref h), (1, .int x1)] := hl
  refine k_Q (fun Q hQ => ?_)
  have B84 : ∀ (K15 : Int32 → Int32 → MS → Option (Int32 × MS)) (hK15 : ∀ (v1 : Int32) (v2 : Int32)  (M : MS) (ad : Nat → Nat) (H : Heap) (locs : List Loc) (ls : Array Slot), K15 v1 v2 M = some (r', M') → (M0.2.2 ≤ M.2.2 ∧ M.2.2 ≤ 2048000) → va_P D vwCl (mW cI cZ h ad M) H → va_D A (mW cI cZ h ad M) → va_S A s.heap H locs → lv_has ls 5 [(0, .ref h), (1, .int v1), (2, .int v2)] → W p l e (headSpec wsX4_go ({ frames := 4, cells := (2048000 - M0.2.2) / 4000, slots := 2 * (2048000 - M0.2.2), locals := 99 })).room s m ([.ref h, .int x1] : List Value).toArray below meth c H locs (((M.2.2 - M0.2.2) / 4000)) ((2 * (M.2.2 - M0.2.2))) Q (F0 m 15 ls [])), ∀ (v1 : Int32) (v2 : Int32)  (M : MS) (ad : Nat → Nat) (H : Heap) (locs : List Loc) (ls : Array Slot), f_X4_go_84 K15 v1 v2 M = some (r', M') → (M0.2.2 ≤ M.2.2 ∧ M.2.2 ≤ 2048000) → va_P D vwCl (mW cI cZ h ad M) H → va_D A (mW cI cZ h ad M) → va_S A s.heap H locs → lv_has ls 5 [(0, .ref h), (1, .int v1), (2, .int v2)] → W p l e (headSpec wsX4_go ({ frames := 4, cells := (2048000 - M0.2.2) / 4000, slots := 2 * (2048000 - M0.2.2), locals := 99 })).room s m ([.ref h, .int x1] : List Value).toArray below meth c H locs (((M.2.2 - M0.2.2) / 4000)) ((2 * (M.2.2 - M0.2.2))) Q (F0 m 84 ls []) := by
    intro K15 hK15
    intro v1 v2  M ad H locs ls hq hg hP hD hS hl
    rw [f_X4_go_84] at hq
    refine lv_aload_n hx hb dX4_go_84 rfl (lv_at hl 0 rfl) ?_
    refine lv_dup hx hb dX4_go_85 rfl ?_
    refine va_get (D := D) (ci := 4) (v := .int (M.1 0)) (C := RX4) (T := TX4) (N := 39) hx hb hts kin_X4_go_X4 hown hK hP 0 rfl rfl 0 (by decide) (hts _ kw_X4_go__fieldLink_RX4_130_ActHouseModel_now_I_) (fun _ h9 => h9) rfl dX4_go_86 ?_
    refine lv_iconst (v := 1) hx hb dX4_go_89 (by decide) ?_
    refine lv_iadd hx hb dX4_go_90 ?_
    refine va_put (D := D) (ci := 4) (v := .int ((M.1 0) + 1)) (ty := .int) (C := RX4) (T := TX4) (N := 39) hx hb hts kin_X4_go_X4 tyX4 tyX4_ok nmX4 hown hK hP hD hS 0 (fs := mF ad M) rfl rfl 0 (by decide) (hts _ kw_X4_go__fieldLink_RX4_130_ActHouseModel_now_I_) (fun _ h9 => h9) rfl (by decide +kernel) rfl rfl (Nat.le_of_ble_eq_true rfl) dX4_go_91 (fun H locs hP hD hS => ?_)
    obtain ⟨M10, eM10, hg10, hq⟩ := k_lI hq
    rw [mW_I0, ← eM10] at hP hD
    have hP : va_P D vwCl (mW cI cZ h ad M10) _ := hP
    have hD : va_D A (mW cI cZ h ad M10) := hD
    refine W.widen (k := ((M10.2.2 - M0.2.2) / 4000)) (n := (2 * (M10.2.2 - M0.2.2))) (by omega) (by omega) ?_
    refine lv_iinc (v := v2 + 1) (lv' := [(2, .int (v2 + 1)), (0, .ref h), (1, .int v1)]) hx hb dX4_go_94 hl (k := 2) rfl (by rfl) (by decide) rfl (fun ls hl => ?_)
    refine lv_goto (tgt := 15) hx hb dX4_go_97 (by decide) ?_
    exact hK15 v1 (v2 + 1) M10 ad _ _ _ hq (by show M0.2.2 ≤ M10.2.2 ∧ M10.2.2 ≤ 2048000; omega) hP hD hS (lv_sub hl [1, 2, 0] rfl)
  have B39 : ∀ (K15 : Int32 → Int32 → MS → Option (Int32 × MS)) (hK15 : ∀ (v1 : Int32) (v2 : Int32)  (M : MS) (ad : Nat → Nat) (H : Heap) (locs : List Loc) (ls : Array Slot), K15 v1 v2 M = some (r', M') → (M0.2.2 ≤ M.2.2 ∧ M.2.2 ≤ 2048000) → va_P D vwCl (mW cI cZ h ad M) H → va_D A (mW cI cZ h ad M) → va_S A s.heap H locs → lv_has ls 5 [(0, .ref h), (1, .int v1), (2, .int v2)] → W p l e (headSpec wsX4_go ({ frames := 4, cells := (2048000 - M0.2.2) / 4000, slots := 2 * (2048000 - M0.2.2), locals := 99 })).room s m ([.ref h, .int x1] : List Value).toArray below meth c H locs (((M.2.2 - M0.2.2) / 4000)) ((2 * (M.2.2 - M0.2.2))) Q (F0 m 15 ls [])) (k : Nat), ∀ (v1 : Int32) (v2 : Int32) (v3 : Int32) (v4 : Int32)  (M : MS) (ad : Nat → Nat) (H : Heap) (locs : List Loc) (ls : Array Slot), f_X4_go_39 K15 k v1 v2 v3 v4 M = some (r', M') → (M0.2.2 ≤ M.2.2 ∧ M.2.2 ≤ 2048000) → va_P D vwCl (mW cI cZ h ad M) H → va_D A (mW cI cZ h ad M) → va_S A s.heap H locs → lv_has ls 5 [(0, .ref h), (1, .int v1), (2, .int v2), (3, .int v3), (4, .int v4)] → W p l e (headSpec wsX4_go ({ frames := 4, cells := (2048000 - M0.2.2) / 4000, slots := 2 * (2048000 - M0.2.2), locals := 99 })).room s m ([.ref h, .int x1] : List Value).toArray below meth c H locs (((M.2.2 - M0.2.2) / 4000)) ((2 * (M.2.2 - M0.2.2))) Q (F0 m 39 ls []) := by
    intro K15 hK15 k
    induction k with
    | zero =>
      intro v1 v2 v3 v4  M ad H locs ls hq hg hP hD hS hl
      exact absurd hq (by rw [f_X4_go_39]; exact k_non)
    | succ k ih =>
      intro v1 v2 v3 v4  M ad H locs ls hq hg hP hD hS hl
      rw [f_X4_go_39] at hq
      refine lv_iload hx hb dX4_go_39 (lv_at hl 4 rfl) ?_
      refine lv_iload_n hx hb dX4_go_41 rfl (lv_at hl 3 rfl) ?_
      refine lv_icmp_ge (tgt := 62) hx hb dX4_go_42 (by decide) (fun c6 => ?_) (fun c6 => ?_)
      · skip
        rw [if_pos c6] at hq
        refine lv_aload_n hx hb dX4_go_62 rfl (lv_at hl 0 rfl) ?_
        obtain ⟨r7, M7, h7, hq⟩ := k_bd hq
        have hFc := k_free hD hS hA
        refine k_facts (fun hn1 hn2 hn3 => ?_)
        refine va_callv (va_runV (As := []) (rest := []) ⟨hx, hb, hml, hown, hts⟩ (c_X4_breaks (l := l) (D := D) (cI := cI) (cZ := cZ) (h := h) (ad := ad)  (hg := by show M.2.2 ≤ 2048000; omega) (hf := h7)) (cwV 0 hts gX4_go_X4_breaks rfl rfl rfl (by decide +kernel) ⟨Nat.le_of_ble_eq_true rfl, Nat.le_of_ble_eq_true rfl⟩) ⟨k_blindH, va_recv hK hP (ci := 4) (q0 := 0) rfl rfl, fun U hU hW => ⟨rfl, k_preH hU hW hP hK hD⟩⟩ rfl rfl hl.1 rfl (lv_room (Nat.le_of_ble_eq_true rfl)) dX4_go_63 ⟨by show (M.2.2 - M0.2.2) / 4000 + (2048000 - M.2.2) / 4000 ≤ (2048000 - M0.2.2) / 4000; omega, by show 2 * (M.2.2 - M0.2.2) + 2 * (2048000 - M.2.2) ≤ 2 * (2048000 - M0.2.2); omega⟩) hS (fun q _ h => hFc q h) hFc (fun u t H1 locs ht hvm hw hB hz1 hk1 hS => ?_)
        obtain ⟨ad, rfl, hg7, hh7⟩ := hw
        have hg7 : M.2.2 ≤ M7.2.2 := hg7
        obtain ⟨hB, hz2, hz3, hz4⟩ := hB
        rw [ht] at hz2 hz3 hz4
        refine k_tight (k := ((M7.2.2 - M0.2.2) / 4000)) (n := (2 * (M7.2.2 - M0.2.2))) (by omega) (by rw [k_nS_tr hn3.1 hz2]; omega) ?_
        obtain ⟨hP1, hK1, hD1⟩ := hB
        rw [ht] at hP1
        have hP := hP1
        have hD := k_weak hD1 hFc
        generalize H1 = H at hP hS ⊢
        have hP : va_P D vwCl (mW cI cZ h ad M7) _ := hP
        have hD : va_D A (mW cI cZ h ad M7) := hD
        refine lv_aload_n hx hb dX4_go_66 rfl (lv_at hl 0 rfl) ?_
        obtain ⟨r8, M8, h8, hq⟩ := k_bd hq
        have hFc := k_free hD hS hA
        refine k_facts (fun hn1 hn2 hn3 => ?_)
        refine va_callv (va_runV (As := []) (rest := []) ⟨hx, hb, hml, hown, hts⟩ (c_X4_begins (l := l) (D := D) (cI := cI) (cZ := cZ) (h := h) (ad := ad)  (hg := by show M7.2.2 ≤ 2048000; omega) (hf := h8)) (cwV 0 hts gX4_go_X4_begins rfl rfl rfl (by decide +kernel) ⟨Nat.le_of_ble_eq_true rfl, Nat.le_of_ble_eq_true rfl⟩) ⟨k_blindH, va_recv hK hP (ci := 4) (q0 := 0) rfl rfl, fun U hU hW => ⟨rfl, k_preH hU hW hP hK hD⟩⟩ rfl rfl hl.1 rfl (lv_room (Nat.le_of_ble_eq_true rfl)) dX4_go_67 ⟨by show (M7.2.2 - M0.2.2) / 4000 + (2048000 - M7.2.2) / 4000 ≤ (2048000 - M0.2.2) / 4000; omega, by show 2 * (M7.2.2 - M0.2.2) + 2 * (2048000 - M7.2.2) ≤ 2 * (2048000 - M0.2.2); omega⟩) hS (fun q _ h => hFc q h) hFc (fun u t H1 locs ht hvm hw hB hz1 hk1 hS => ?_)
        obtain ⟨ad, rfl, hg8, hh8⟩ := hw
        have hg8 : M7.2.2 ≤ M8.2.2 := hg8
        obtain ⟨hB, hz2, hz3, hz4⟩ := hB
        rw [ht] at hz2 hz3 hz4
        refine k_tight (k := ((M8.2.2 - M0.2.2) / 4000)) (n := (2 * (M8.2.2 - M0.2.2))) (by omega) (by rw [k_nS_tr hn3.1 hz2]; omega) ?_
        obtain ⟨hP1, hK1, hD1⟩ := hB
        rw [ht] at hP1
        have hP := hP1
        have hD := k_weak hD1 hFc
        generalize H1 = H at hP hS ⊢
        have hP : va_P D vwCl (mW cI cZ h ad M8) _ := hP
        have hD : va_D A (mW cI cZ h ad M8) := hD
        refine lv_aload_n hx hb dX4_go_70 rfl (lv_at hl 0 rfl) ?_
        refine va_get (D := D) (ci := 4) (v := .int (M8.1 0)) (C := RX4) (T := TX4) (N := 39) hx hb hts kin_X4_go_X4 hown hK hP 0 rfl rfl 0 (by decide) (hts _ kw_X4_go__fieldLink_RX4_130_ActHouseModel_now_I_) (fun _ h9 => h9) rfl dX4_go_71 ?_
        refine lv_iconst (v := 4) hx hb dX4_go_74 (by decide) ?_
        refine lv_irem hx hb dX4_go_75 (by decide) ?_
        refine lv_iconst (v := 3) hx hb dX4_go_76 (by decide) ?_
        refine lv_icmp_ne (tgt := 84) hx hb dX4_go_77 (by decide) (fun c9 => ?_) (fun c9 => ?_)
        · skip
          rw [if_neg c9] at hq
          exact B84 K15 hK15 v1 v2 M8 ad _ _ _ hq (by show M0.2.2 ≤ M8.2.2 ∧ M8.2.2 ≤ 2048000; omega) hP hD hS (lv_sub hl [0, 1, 2] rfl)
        · skip
          rw [if_pos c9] at hq
          refine lv_aload_n hx hb dX4_go_80 rfl (lv_at hl 0 rfl) ?_
          obtain ⟨r11, M11, h11, hq⟩ := k_bd hq
          have hFc := k_free hD hS hA
          refine va_callv (va_runV (As := []) (rest := []) ⟨hx, hb, hml, hown, hts⟩ (c_X4_keeps (l := l) (D := D) (cI := cI) (cZ := cZ) (h := h) (ad := ad)  (hf := h11)) (cwV 0 hts gX4_go_X4_keeps rfl rfl rfl (by decide +kernel) ⟨Nat.le_of_ble_eq_true rfl, Nat.le_of_ble_eq_true rfl⟩) ⟨k_blind, va_recv hK hP (ci := 4) (q0 := 0) rfl rfl, fun U hU hW => ⟨rfl, k_pre hU hW hP hK hD⟩⟩ rfl rfl hl.1 rfl (lv_room (Nat.le_of_ble_eq_true rfl)) dX4_go_81 ⟨by show (M8.2.2 - M0.2.2) / 4000 + 0 ≤ (2048000 - M0.2.2) / 4000; omega, by show 2 * (M8.2.2 - M0.2.2) + 0 ≤ 2 * (2048000 - M0.2.2); omega⟩) hS (fun q _ h => hFc q h) hFc (fun u t H1 locs ht hvm hw hB hz1 hk1 hS => ?_)
          obtain ⟨rfl, hg11⟩ := hw
          have hg11 : M11.2.2 = M8.2.2 := hg11
          refine W.widen (k := ((M11.2.2 - M0.2.2) / 4000)) (n := (2 * (M11.2.2 - M0.2.2))) (by omega) (by omega) ?_
          obtain ⟨hP1, hK1, hD1⟩ := hB
          rw [ht] at hP1
          have hP := hP1
          have hD := k_weak hD1 hFc
          generalize H1 = H at hP hS ⊢
          have hP : va_P D vwCl (mW cI cZ h ad M11) _ := hP
          have hD : va_D A (mW cI cZ h ad M11) := hD
          exact B84 K15 hK15 v1 v2 M11 ad _ _ _ hq (by show M0.2.2 ≤ M11.2.2 ∧ M11.2.2 ≤ 2048000; omega) hP hD hS (lv_sub hl [0, 1, 2] rfl)
      · skip
        rw [if_neg c6] at hq
        refine lv_aload_n hx hb dX4_go_45 rfl (lv_at hl 0 rfl) ?_
        refine lv_aload_n hx hb dX4_go_46 rfl (lv_at hl 0 rfl) ?_
        refine va_get (D := D) (ci := 4) (v := .ref (ad 36)) (C := RX4) (T := TX4) (N := 39) hx hb hts kin_X4_go_X4 hown hK hP 0 rfl rfl 36 (by decide) (hts _ kw_X4_go__fieldLink_RX4_98_ActHouseModel_order_I_) (fun _ h9 => h9) rfl dX4_go_47 ?_
        refine lv_iload hx hb dX4_go_50 (lv_at hl 4 rfl) ?_
        obtain ⟨b12, hq⟩ := k_if hq
        refine va_iald hx hb hK hP 30 0 (f := (M.2.1 36)) rfl rfl (k_in b12.1 b12.2) dX4_go_52 ?_
        obtain ⟨r13, M13, h13, hq⟩ := k_bd hq
        have hFc := k_free hD hS hA
        refine k_facts (fun hn1 hn2 hn3 => ?_)
        refine va_callv (va_runV (As := [.int ((M.2.1 36) v4.toNatClampNeg)]) (rest := []) ⟨hx, hb, hml, hown, hts⟩ (c_X4_does (l := l) (D := D) (cI := cI) (cZ := cZ) (h := h) (ad := ad)  (hg := by show M.2.2 ≤ 2048000; omega) (hf := h13)) (cwV 1 hts gX4_go_X4_does rfl rfl rfl (by decide +kernel) ⟨Nat.le_of_ble_eq_true rfl, Nat.le_of_ble_eq_true rfl⟩) ⟨k_blindH, va_recv hK hP (ci := 4) (q0 := 0) rfl rfl, fun U hU hW => ⟨rfl, k_preH hU hW hP hK hD⟩⟩ rfl rfl hl.1 rfl (lv_room (Nat.le_of_ble_eq_true rfl)) dX4_go_53 ⟨by show (M.2.2 - M0.2.2) / 4000 + (2048000 - M.2.2) / 4000 ≤ (2048000 - M0.2.2) / 4000; omega, by show 2 * (M.2.2 - M0.2.2) + 2 * (2048000 - M.2.2) ≤ 2 * (2048000 - M0.2.2); omega⟩) hS (fun q _ h => hFc q h) hFc (fun u t H1 locs ht hvm hw hB hz1 hk1 hS => ?_)
        obtain ⟨ad, rfl, hg13, hh13⟩ := hw
        have hg13 : M.2.2 ≤ M13.2.2 := hg13
        obtain ⟨hB, hz2, hz3, hz4⟩ := hB
        rw [ht] at hz2 hz3 hz4
        refine k_tight (k := ((M13.2.2 - M0.2.2) / 4000)) (n := (2 * (M13.2.2 - M0.2.2))) (by omega) (by rw [k_nS_tr hn3.1 hz2]; omega) ?_
        obtain ⟨hP1, hK1, hD1⟩ := hB
        rw [ht] at hP1
        have hP := hP1
        have hD := k_weak hD1 hFc
        generalize H1 = H at hP hS ⊢
        have hP : va_P D vwCl (mW cI cZ h ad M13) _ := hP
        have hD : va_D A (mW cI cZ h ad M13) := hD
        refine lv_iinc (v := v4 + 1) (lv' := [(4, .int (v4 + 1)), (0, .ref h), (1, .int v1), (2, .int v2), (3, .int v3)]) hx hb dX4_go_56 hl (k := 4) rfl (by rfl) (by decide) rfl (fun ls hl => ?_)
        refine lv_goto (tgt := 39) hx hb dX4_go_59 (by decide) ?_
        exact ih v1 v2 v3 (v4 + 1) M13 ad _ _ _ hq (by show M0.2.2 ≤ M13.2.2 ∧ M13.2.2 ≤ 2048000; omega) hP hD hS (lv_sub hl [1, 2, 3, 4, 0] rfl)
  have B15 : ∀  (k : Nat), ∀ (v1 : Int32) (v2 : Int32)  (M : MS) (ad : Nat → Nat) (H : Heap) (locs : List Loc) (ls : Array Slot), f_X4_go_15  k v1 v2 M = some (r', M') → (M0.2.2 ≤ M.2.2 ∧ M.2.2 ≤ 2048000) → va_P D vwCl (mW cI cZ h ad M) H → va_D A (mW cI cZ h ad M) → va_S A s.heap H locs → lv_has ls 5 [(0, .ref h), (1, .int v1), (2, .int v2)] → W p l e (headSpec wsX4_go ({ frames := 4, cells := (2048000 - M0.2.2) / 4000, slots := 2 * (2048000 - M0.2.2), locals := 99 })).room s m ([.ref h, .int x1] : List Value).toArray below meth c H locs (((M.2.2 - M0.2.2) / 4000)) ((2 * (M.2.2 - M0.2.2))) Q (F0 m 15 ls []) := by
    intro  k
    induction k with
    | zero =>
      intro v1 v2  M ad H locs ls hq hg hP hD hS hl
      exact absurd hq (by rw [f_X4_go_15]; exact k_non)
    | succ k ih =>
      intro v1 v2  M ad H locs ls hq hg hP hD hS hl
      rw [f_X4_go_15] at hq
      refine lv_iload_n hx hb dX4_go_15 rfl (lv_at hl 2 rfl) ?_
      refine lv_iload_n hx hb dX4_go_16 rfl (lv_at hl 1 rfl) ?_
      refine lv_icmp_ge (tgt := 100) hx hb dX4_go_17 (by decide) (fun c3 => ?_) (fun c3 => ?_)
      · skip
        rw [if_pos c3] at hq
        refine lv_aload_n hx hb dX4_go_100 rfl (lv_at hl 0 rfl) ?_
        refine va_get (D := D) (ci := 4) (v := .int (M.1 0)) (C := RX4) (T := TX4) (N := 39) hx hb hts kin_X4_go_X4 hown hK hP 0 rfl rfl 0 (by decide) (hts _ kw_X4_go__fieldLink_RX4_130_ActHouseModel_now_I_) (fun _ h9 => h9) rfl dX4_go_101 ?_
        obtain ⟨e2, e3⟩ := k_so hq
        subst hQ
        have hP : va_P D vwCl (mW cI cZ h ad M) _ := hP
        have hD : va_D A (mW cI cZ h ad M) := hD
        have hgE := congrArg (fun X : MS => X.2.2) e3
        have hgE : M.2.2 = M'.2.2 := hgE
        refine k_facts (fun hm1 hm2 hm3 => ?_)
        refine W.widen (k := (2048000 - M0.2.2) / 4000) (n := 2 * (2048000 - M0.2.2)) (by omega) (by omega) ?_
        exact W.iret (v := M.1 0) hx hb hr (fun t ht hW => ⟨⟨M.1 0, (mW cI cZ h ad M, [(cI, .int), (cZ, .boolean)]), rfl, ⟨ad, e2, (congrArg (fun X : MS => ((mW cI cZ h ad X, [(cI, .int), (cZ, .boolean)]) : va_W × List (ClassId × FieldType))) e3), by omega, by omega⟩, ⟨⟨by rw [ht]; exact hP, va_K.moved hW.alike hK, hD⟩, by rw [ht]; exact hm3, by rw [ht]; omega, by rw [ht]; omega⟩⟩, hS.F ht⟩) hS.2.2 dX4_go_104
      · skip
        rw [if_neg c3] at hq
        refine lv_aload_n hx hb dX4_go_20 rfl (lv_at hl 0 rfl) ?_
        refine va_get (D := D) (ci := 4) (v := .int (M.1 0)) (C := RX4) (T := TX4) (N := 39) hx hb hts kin_X4_go_X4 hown hK hP 0 rfl rfl 0 (by decide) (hts _ kw_X4_go__fieldLink_RX4_130_ActHouseModel_now_I_) (fun _ h9 => h9) rfl dX4_go_21 ?_
        refine lv_sipush (v := 5000) hx hb dX4_go_24 (by decide) ?_
        refine lv_icmp_ge (tgt := 100) hx hb dX4_go_27 (by decide) (fun c4 => ?_) (fun c4 => ?_)
        · skip
          rw [if_pos c4] at hq
          refine lv_aload_n hx hb dX4_go_100 rfl (lv_at hl 0 rfl) ?_
          refine va_get (D := D) (ci := 4) (v := .int (M.1 0)) (C := RX4) (T := TX4) (N := 39) hx hb hts kin_X4_go_X4 hown hK hP 0 rfl rfl 0 (by decide) (hts _ kw_X4_go__fieldLink_RX4_130_ActHouseModel_now_I_) (fun _ h9 => h9) rfl dX4_go_101 ?_
          obtain ⟨e2, e3⟩ := k_so hq
          subst hQ
          have hP : va_P D vwCl (mW cI cZ h ad M) _ := hP
          have hD : va_D A (mW cI cZ h ad M) := hD
          have hgE := congrArg (fun X : MS => X.2.2) e3
          have hgE : M.2.2 = M'.2.2 := hgE
          refine k_facts (fun hm1 hm2 hm3 => ?_)
          refine W.widen (k := (2048000 - M0.2.2) / 4000) (n := 2 * (2048000 - M0.2.2)) (by omega) (by omega) ?_
          exact W.iret (v := M.1 0) hx hb hr (fun t ht hW => ⟨⟨M.1 0, (mW cI cZ h ad M, [(cI, .int), (cZ, .boolean)]), rfl, ⟨ad, e2, (congrArg (fun X : MS => ((mW cI cZ h ad X, [(cI, .int), (cZ, .boolean)]) : va_W × List (ClassId × FieldType))) e3), by omega, by omega⟩, ⟨⟨by rw [ht]; exact hP, va_K.moved hW.alike hK, hD⟩, by rw [ht]; exact hm3, by rw [ht]; omega, by rw [ht]; omega⟩⟩, hS.F ht⟩) hS.2.2 dX4_go_104
        · skip
          rw [if_neg c4] at hq
          refine lv_aload_n hx hb dX4_go_30 rfl (lv_at hl 0 rfl) ?_
          refine lv_iconst (v := 1) hx hb dX4_go_31 (by decide) ?_
          obtain ⟨q5, M5, h5, hq⟩ := k_bd hq
          have hFc := k_free hD hS hA
          refine va_calli (va_runV (As := [.int 1]) (rest := []) ⟨hx, hb, hml, hown, hts⟩ (c_X4_sorts (l := l) (D := D) (cI := cI) (cZ := cZ) (h := h) (ad := ad)  (hf := h5)) (cwV 1 hts gX4_go_X4_sorts rfl rfl rfl (by decide +kernel) ⟨Nat.le_of_ble_eq_true rfl, Nat.le_of_ble_eq_true rfl⟩) ⟨k_blind, va_recv hK hP (ci := 4) (q0 := 0) rfl rfl, fun U hU hW => ⟨rfl, k_pre hU hW hP hK hD⟩⟩ rfl rfl hl.1 rfl (lv_room (Nat.le_of_ble_eq_true rfl)) dX4_go_32 ⟨by show (M.2.2 - M0.2.2) / 4000 + 0 ≤ (2048000 - M0.2.2) / 4000; omega, by show 2 * (M.2.2 - M0.2.2) + 0 ≤ 2 * (2048000 - M0.2.2); omega⟩) hS (fun q _ h => hFc q h) hFc (fun r5 u t H1 locs ht hvm hw hB hz1 hk1 hS => ?_)
          obtain ⟨rfl, rfl, hg5⟩ := hw
          have hg5 : M5.2.2 = M.2.2 := hg5
          refine W.widen (k := ((M5.2.2 - M0.2.2) / 4000)) (n := (2 * (M5.2.2 - M0.2.2))) (by omega) (by omega) ?_
          obtain ⟨hP1, hK1, hD1⟩ := hB
          rw [ht] at hP1
          have hP := hP1
          have hD := k_weak hD1 hFc
          generalize H1 = H at hP hS ⊢
          have hP : va_P D vwCl (mW cI cZ h ad M5) _ := hP
          have hD : va_D A (mW cI cZ h ad M5) := hD
          refine lv_istore_n (lv' := [(3, .int r5), (0, .ref h), (1, .int v1), (2, .int v2)]) hx hb dX4_go_35 rfl hl (by decide) rfl (fun ls hl => ?_)
          refine lv_iconst (v := 0) hx hb dX4_go_36 (by decide) ?_
          refine lv_istore (lv' := [(4, .int 0), (3, .int r5), (0, .ref h), (1, .int v1), (2, .int v2)]) hx hb dX4_go_37 hl (by decide) rfl (fun ls hl => ?_)
          exact B39 (fun (v1 : Int32) (v2 : Int32) (M : MS) => f_X4_go_15  k v1 v2 M) ih 300 v1 v2 r5 (0 : Int32) M5 ad _ _ _ hq (by show M0.2.2 ≤ M5.2.2 ∧ M5.2.2 ≤ 2048000; omega) hP hD hS (lv_sub hl [2, 3, 4, 1, 0] rfl)
  refine W.widen (k := ((M0.2.2 - M0.2.2) / 4000)) (n := (2 * (M0.2.2 - M0.2.2))) (by omega) (by omega) ?_
  have hq := hf
  rw [f_X4_go] at hq
  refine lv_iload_n hx hb dX4_go_0 rfl (lv_at hl 1 rfl) ?_
  refine lv_iconst (v := 0) hx hb dX4_go_1 (by decide) ?_
  refine lv_sipush (v := 200) hx hb dX4_go_2 (by decide) ?_
  have hFc := k_free hD hS hA
  refine va_calli (va_runS (As := [.int x1, .int 0, .int 200]) (rest := []) ⟨hx, hb, hml, hown, hts⟩ (c_X4_in (l := l) (D := D) (cI := cI) (cZ := cZ) (h := h) (ad := ad) (M0 := M0) (hf := rfl)) (va_cwS 3 hts gX4_go_X4_in rfl rfl rfl (by decide +kernel) ⟨Nat.le_of_ble_eq_true rfl, Nat.le_of_ble_eq_true rfl⟩) ⟨k_blind, fun U hU hW => ⟨rfl, k_pre hU hW hP hK hD⟩⟩ rfl rfl hl.1 rfl (lv_room (Nat.le_of_ble_eq_true rfl)) dX4_go_5 ⟨by show (M0.2.2 - M0.2.2) / 4000 + 0 ≤ (2048000 - M0.2.2) / 4000; omega, by show 2 * (M0.2.2 - M0.2.2) + 0 ≤ 2 * (2048000 - M0.2.2); omega⟩) hS (fun q _ h => hFc q h) hFc (fun r1 u t H1 locs ht hvm hw hB hz1 hk1 hS => ?_)
  obtain ⟨rfl, rfl⟩ := hw
  refine W.widen (k := ((M0.2.2 - M0.2.2) / 4000)) (n := (2 * (M0.2.2 - M0.2.2))) (by omega) (by omega) ?_
  obtain ⟨hP1, hK1, hD1⟩ := hB
  rw [ht] at hP1
  have hP := hP1
  have hD := k_weak hD1 hFc
  generalize H1 = H at hP hS ⊢
  have hP : va_P D vwCl (mW cI cZ h ad M0) _ := hP
  have hD : va_D A (mW cI cZ h ad M0) := hD
  refine lv_if_ne (tgt := 13) hx hb dX4_go_8 (by decide) (fun c2 => ?_) (fun c2 => ?_)
  · skip
    rw [if_neg c2] at hq
    refine lv_iconst (v := 0) hx hb dX4_go_13 (by decide) ?_
    refine lv_istore_n (lv' := [(2, .int 0), (0, .ref h), (1, .int x1)]) hx hb dX4_go_14 rfl hl (by decide) rfl (fun ls hl => ?_)
    exact B15  300 x1 (0 : Int32) M0 ad _ _ _ hq (by show M0.2.2 ≤ M0.2.2 ∧ M0.2.2 ≤ 2048000; omega) hP hD hS (lv_sub hl [1, 2, 0] rfl)
  · skip
    rw [if_pos c2] at hq
    refine lv_iconst (v := (-1)) hx hb dX4_go_11 (by decide) ?_
    obtain ⟨e2, e3⟩ := k_so hq
    subst hQ
    have hP : va_P D vwCl (mW cI cZ h ad M0) _ := hP
    have hD : va_D A (mW cI cZ h ad M0) := hD
    have hgE := congrArg (fun X : MS => X.2.2) e3
    have hgE : M0.2.2 = M'.2.2 := hgE
    refine k_facts (fun hm1 hm2 hm3 => ?_)
    refine W.widen (k := (2048000 - M0.2.2) / 4000) (n := 2 * (2048000 - M0.2.2)) (by omega) (by omega) ?_
    exact W.iret (v := (-1)) hx hb hr (fun t ht hW => ⟨⟨(-1), (mW cI cZ h ad M0, [(cI, .int), (cZ, .boolean)]), rfl, ⟨ad, e2, (congrArg (fun X : MS => ((mW cI cZ h ad X, [(cI, .int), (cZ, .boolean)]) : va_W × List (ClassId × FieldType))) e3), by omega, by omega⟩, ⟨⟨by rw [ht]; exact hP, va_K.moved hW.alike hK, hD⟩, by rw [ht]; exact hm3, by rw [ht]; omega, by rw [ht]; omega⟩⟩, hS.F ht⟩) hS.2.2 dX4_go_12
set_option maxRecDepth 100000 in
theorem kw_X4_fall__fieldLink_RX4_127_ActHouseModel_entries_I_ : (.fieldLink RX4 127 "ActHouseModel" "entries" "I" : Cond) ∈ wsX4_fall := by decide +kernel
set_option maxRecDepth 100000 in
theorem kin_X4_fall_X4 : ∀ w ∈ u_ws RX4 TX4 39, w ∈ wsX4_fall := by decide +kernel
set_option maxRecDepth 100000 in
theorem kw_X4_fall__fieldLink_RX4_190_ActHouseModel_kept_I_ : (.fieldLink RX4 190 "ActHouseModel" "kept" "I" : Cond) ∈ wsX4_fall := by decide +kernel
set_option maxRecDepth 100000 in
theorem kw_X4_fall__fieldLink_RX4_111_ActHouseModel_acts_I_ : (.fieldLink RX4 111 "ActHouseModel" "acts" "I" : Cond) ∈ wsX4_fall := by decide +kernel
set_option maxRecDepth 100000 in
theorem kw_X4_fall__fieldLink_RX4_168_ActHouseModel_dones_I_ : (.fieldLink RX4 168 "ActHouseModel" "dones" "I" : Cond) ∈ wsX4_fall := by decide +kernel
set_option maxRecDepth 100000 in
theorem kw_X4_fall__fieldLink_RX4_205_ActHouseModel_falls_I_ : (.fieldLink RX4 205 "ActHouseModel" "falls" "I" : Cond) ∈ wsX4_fall := by decide +kernel
set_option maxRecDepth 100000 in
theorem kw_X4_fall__fieldLink_RX4_92_ActHouseModel_done_I_ : (.fieldLink RX4 92 "ActHouseModel" "done" "[I" : Cond) ∈ wsX4_fall := by decide +kernel
set_option maxRecDepth 100000 in
theorem kw_X4_fall__fieldLink_RX4_13_ActHouseModel_counters_I_ : (.fieldLink RX4 13 "ActHouseModel" "counters" "[I" : Cond) ∈ wsX4_fall := by decide +kernel
set_option maxRecDepth 100000 in
theorem kw_X4_fall__fieldLink_RX4_9_ActHouseModel_cells_I_ : (.fieldLink RX4 9 "ActHouseModel" "cells" "[I" : Cond) ∈ wsX4_fall := by decide +kernel
set_option maxRecDepth 100000 in
theorem kw_X4_fall__fieldLink_RX4_59_ActHouseModel_undone_I_ : (.fieldLink RX4 59 "ActHouseModel" "undone" "[I" : Cond) ∈ wsX4_fall := by decide +kernel
set_option maxRecDepth 100000 in
theorem kw_X4_fall__fieldLink_RX4_71_ActHouseModel_isAgain_Z_ : (.fieldLink RX4 71 "ActHouseModel" "isAgain" "[Z" : Cond) ∈ wsX4_fall := by decide +kernel
set_option maxRecDepth 100000 in
theorem kw_X4_fall__fieldLink_RX4_68_ActHouseModel_isVoid_Z_ : (.fieldLink RX4 68 "ActHouseModel" "isVoid" "[Z" : Cond) ∈ wsX4_fall := by decide +kernel
set_option maxRecDepth 100000 in
theorem kw_X4_fall__fieldLink_RX4_37_ActHouseModel_state_I_ : (.fieldLink RX4 37 "ActHouseModel" "state" "[I" : Cond) ∈ wsX4_fall := by decide +kernel
set_option maxRecDepth 100000 in
theorem kw_X4_fall__fieldLink_RX4_56_ActHouseModel_doneIn_I_ : (.fieldLink RX4 56 "ActHouseModel" "doneIn" "[I" : Cond) ∈ wsX4_fall := by decide +kernel
set_option maxRecDepth 100000 in
theorem kw_X4_fall__fieldLink_RX4_95_ActHouseModel_log_I_ : (.fieldLink RX4 95 "ActHouseModel" "log" "[I" : Cond) ∈ wsX4_fall := by decide +kernel
set_option maxRecDepth 100000 in
theorem kw_X4_fall__fieldLink_RX4_62_ActHouseModel_by_I_ : (.fieldLink RX4 62 "ActHouseModel" "by" "[I" : Cond) ∈ wsX4_fall := by decide +kernel
def f_X4_fall_427  : Nat → Int32 → Int32 → MS → Option (Int32 × MS)
  | 0, _, _, _ => none
  | k + 1, v3, v4, M => (if (M.1 29) ≤ v4 then (k_bind (f_X4_keeps M) fun r10 M10 => (k_let (mI M10 35 ((M10.1 35) + 1)) fun M11 => some (v3, M11))) else (if 0 ≤ v4.toInt ∧ v4.toInt < 80 then (k_bind (f_X4_gets ((M.2.1 30) v4.toNatClampNeg) M) fun r13 M13 => f_X4_fall_427  k v3 (v4 + 1) M13) else none))
def f_X4_fall_403  : Nat → Int32 → Int32 → MS → Option (Int32 × MS)
  | 0, _, _, _ => none
  | k + 1, v3, v4, M => (if 8 ≤ v4 then f_X4_fall_427  3000000 v3 (0 : Int32) M else (if 0 ≤ v4.toInt ∧ v4.toInt < 8 then (k_let (mA M 2 v4.toNatClampNeg (0 : Int32)) fun M15 => f_X4_fall_403  k v3 (v4 + 1) M15) else none))
def f_X4_fall_379  : Nat → Int32 → Int32 → MS → Option (Int32 × MS)
  | 0, _, _, _ => none
  | k + 1, v3, v4, M => (if 24 ≤ v4 then f_X4_fall_403  3000000 v3 (0 : Int32) M else (if 0 ≤ v4.toInt ∧ v4.toInt < 24 then (k_let (mA M 1 v4.toNatClampNeg (0 : Int32)) fun M17 => f_X4_fall_379  k v3 (v4 + 1) M17) else none))
def f_X4_fall_370 (K291 : Int32 → Int32 → MS → Option (Int32 × MS)) (v3 : Int32) (v4 : Int32)  (M : MS) : Option (Int32 × MS) := K291 v3 (v4 + 1) M
def f_X4_fall_333 (K291 : Int32 → Int32 → MS → Option (Int32 × MS)) (v3 : Int32) (v4 : Int32) (s0 : Int32) (s1 : Int32) (s2 : Int32)  (M : MS) : Option (Int32 × MS) := (if 0 ≤ s2.toInt ∧ s2.toInt < 80 then (k_let (mA M 18 s2.toNatClampNeg (s1 + s0)) fun M21 => (if 0 ≤ v4.toInt ∧ v4.toInt < 80 then (if ((M21.2.1 21) v4.toNatClampNeg) = 0 then f_X4_fall_370 K291 v3 v4 M21 else (k_bind (f_X4_clears v4 M21) fun r24 M24 => (k_let (mA M24 11 v4.toNatClampNeg (4 : Int32)) fun M25 => (k_let (mA M25 17 v4.toNatClampNeg ((-1) : Int32)) fun M26 => f_X4_fall_370 K291 v3 v4 M26)))) else none)) else none)
def f_X4_fall_332 (K291 : Int32 → Int32 → MS → Option (Int32 × MS)) (v3 : Int32) (v4 : Int32) (s0 : Int32) (s1 : Int32)  (M : MS) : Option (Int32 × MS) := f_X4_fall_333 K291 v3 v4 (0 : Int32) s0 s1 M
def f_X4_fall_291  : Nat → Int32 → Int32 → MS → Option (Int32 × MS)
  | 0, _, _, _ => none
  | k + 1, v3, v4, M => (if (M.1 7) ≤ v4 then f_X4_fall_379  3000000 v3 (0 : Int32) M else (if 0 ≤ v4.toInt ∧ v4.toInt < 80 then (if ((M.2.1 22) v4.toNatClampNeg) = 0 then f_X4_fall_332 (fun (v3 : Int32) (v4 : Int32) (M : MS) => f_X4_fall_291  k v3 v4 M) v3 v4 ((M.2.1 18) v4.toNatClampNeg) v4 M else (if ((M.2.1 21) v4.toNatClampNeg) = 0 then f_X4_fall_333 (fun (v3 : Int32) (v4 : Int32) (M : MS) => f_X4_fall_291  k v3 v4 M) v3 v4 (1 : Int32) ((M.2.1 18) v4.toNatClampNeg) v4 M else f_X4_fall_332 (fun (v3 : Int32) (v4 : Int32) (M : MS) => f_X4_fall_291  k v3 v4 M) v3 v4 ((M.2.1 18) v4.toNatClampNeg) v4 M)) else none))
def f_X4_fall_277 (K93 : Int32 → Int32 → Int32 → MS → Option (Int32 × MS)) (v2 : Int32) (v3 : Int32) (v4 : Int32)  (M : MS) : Option (Int32 × MS) := K93 v2 v3 (v4 + 1) M
def f_X4_fall_270 (K93 : Int32 → Int32 → Int32 → MS → Option (Int32 × MS)) (K223 : Int32 → Int32 → Int32 → Int32 → Int32 → Int32 → MS → Option (Int32 × MS)) (v2 : Int32) (v3 : Int32) (v4 : Int32) (v5 : Int32) (v6 : Int32) (v7 : Int32) (s0 : Int32) (s1 : Int32)  (M : MS) : Option (Int32 × MS) := (if 0 ≤ s1.toInt ∧ s1.toInt < 80 then (k_let (mA M 21 s1.toNatClampNeg (s0 &&& 1)) fun M44 => K223 v2 v3 v4 v5 v6 (v7 + 1) M44) else none)
def f_X4_fall_265 (K93 : Int32 → Int32 → Int32 → MS → Option (Int32 × MS)) (K223 : Int32 → Int32 → Int32 → Int32 → Int32 → Int32 → MS → Option (Int32 × MS)) (v2 : Int32) (v3 : Int32) (v4 : Int32) (v5 : Int32) (v6 : Int32) (v7 : Int32) (s0 : Int32)  (M : MS) : Option (Int32 × MS) := f_X4_fall_270 K93 K223 v2 v3 v4 v5 v6 v7 (1 : Int32) s0 M
def f_X4_fall_223 (K93 : Int32 → Int32 → Int32 → MS → Option (Int32 × MS)) : Nat → Int32 → Int32 → Int32 → Int32 → Int32 → Int32 → MS → Option (Int32 × MS)
  | 0, _, _, _, _, _, _, _ => none
  | k + 1, v2, v3, v4, v5, v6, v7, M => (if (M.1 7) ≤ v7 then f_X4_fall_277 K93 v2 v3 v4 M else (if v6 = 0 then f_X4_fall_277 K93 v2 v3 v4 M else (if 0 ≤ v7.toInt ∧ v7.toInt < 80 then (if ((M.2.1 21) v7.toNatClampNeg) = 0 then (if ((M.2.1 19) v7.toNatClampNeg) = v5 then f_X4_fall_265 K93 (fun (v2 : Int32) (v3 : Int32) (v4 : Int32) (v5 : Int32) (v6 : Int32) (v7 : Int32) (M : MS) => f_X4_fall_223 K93 k v2 v3 v4 v5 v6 v7 M) v2 v3 v4 v5 v6 v7 v7 M else f_X4_fall_270 K93 (fun (v2 : Int32) (v3 : Int32) (v4 : Int32) (v5 : Int32) (v6 : Int32) (v7 : Int32) (M : MS) => f_X4_fall_223 K93 k v2 v3 v4 v5 v6 v7 M) v2 v3 v4 v5 v6 v7 (0 : Int32) v7 M) else f_X4_fall_265 K93 (fun (v2 : Int32) (v3 : Int32) (v4 : Int32) (v5 : Int32) (v6 : Int32) (v7 : Int32) (M : MS) => f_X4_fall_223 K93 k v2 v3 v4 v5 v6 v7 M) v2 v3 v4 v5 v6 v7 v7 M) else none)))
def f_X4_fall_196 (K93 : Int32 → Int32 → Int32 → MS → Option (Int32 × MS)) (v2 : Int32) (v3 : Int32) (v4 : Int32) (v5 : Int32) (s0 : Int32)  (M : MS) : Option (Int32 × MS) := (k_bind (f_X4_clears v5 M) fun r35 M35 => (if 0 ≤ v5.toInt ∧ v5.toInt < 80 then (k_let (mA M35 11 v5.toNatClampNeg (0 : Int32)) fun M37 => (k_let (mA M37 17 v5.toNatClampNeg ((-1) : Int32)) fun M38 => f_X4_fall_223 K93 3000000 v2 v3 v4 v5 s0 (0 : Int32) M38)) else none))
def f_X4_fall_178 (K93 : Int32 → Int32 → Int32 → MS → Option (Int32 × MS)) (v2 : Int32) (v3 : Int32) (v4 : Int32) (v5 : Int32)  (M : MS) : Option (Int32 × MS) := (if 0 ≤ (4 * v4).toInt ∧ (4 * v4).toInt < M.2.2 then (if ((M.2.1 33) (4 * v4).toNatClampNeg) = 2 then f_X4_fall_196 K93 v2 v3 v4 v5 (1 : Int32) M else f_X4_fall_196 K93 v2 v3 v4 v5 (0 : Int32) M) else none)
def f_X4_fall_149 (K93 : Int32 → Int32 → Int32 → MS → Option (Int32 × MS)) (v2 : Int32) (v3 : Int32) (v4 : Int32) (v5 : Int32)  (M : MS) : Option (Int32 × MS) := (if 0 ≤ (4 * v4).toInt ∧ (4 * v4).toInt < M.2.2 then (if ((M.2.1 33) (4 * v4).toNatClampNeg) = 2 then f_X4_fall_178 K93 v2 v3 v4 v5 M else (if ((M.2.1 33) (4 * v4).toNatClampNeg) = 3 then f_X4_fall_178 K93 v2 v3 v4 v5 M else f_X4_fall_277 K93 v2 v3 v4 M)) else none)
def f_X4_fall_93  : Nat → Int32 → Int32 → Int32 → MS → Option (Int32 × MS)
  | 0, _, _, _, _ => none
  | k + 1, v2, v3, v4, M => (if (M.1 31) ≤ v4 then (k_let (mI M 31 v2) fun M5 => f_X4_fall_291  3000000 v3 (0 : Int32) M5) else (if 0 ≤ ((4 * v4) + 1).toInt ∧ ((4 * v4) + 1).toInt < M.2.2 then (if 0 ≤ (4 * v4).toInt ∧ (4 * v4).toInt < M.2.2 then (if ((M.2.1 33) (4 * v4).toNatClampNeg) = 2 then (k_let (mI M 29 ((M.1 29) - 1)) fun M47 => (if 0 ≤ ((M.2.1 33) ((4 * v4) + 1).toNatClampNeg).toInt ∧ ((M.2.1 33) ((4 * v4) + 1).toNatClampNeg).toInt < 80 then (k_let (mA M47 22 (((M.2.1 33) ((4 * v4) + 1).toNatClampNeg).toNatClampNeg) (1 : Int32)) fun M49 => f_X4_fall_149 (fun (v2 : Int32) (v3 : Int32) (v4 : Int32) (M : MS) => f_X4_fall_93  k v2 v3 v4 M) v2 (v3 + 1) v4 ((M.2.1 33) ((4 * v4) + 1).toNatClampNeg) M49) else none)) else f_X4_fall_149 (fun (v2 : Int32) (v3 : Int32) (v4 : Int32) (M : MS) => f_X4_fall_93  k v2 v3 v4 M) v2 v3 v4 ((M.2.1 33) ((4 * v4) + 1).toNatClampNeg) M) else none) else none))
def f_X4_fall_84 (K31 : Int32 → Int32 → Int32 → MS → Option (Int32 × MS)) (v2 : Int32) (v3 : Int32) (v4 : Int32)  (M : MS) : Option (Int32 × MS) := K31 v2 v3 (v4 + 1) M
def f_X4_fall_31  : Nat → Int32 → Int32 → Int32 → MS → Option (Int32 × MS)
  | 0, _, _, _, _ => none
  | k + 1, v2, v3, v4, M => (if (M.1 7) ≤ v4 then f_X4_fall_93  3000000 v2 v3 v2 M else (if 0 ≤ v4.toInt ∧ v4.toInt < 80 then (k_let (mA M 22 v4.toNatClampNeg (0 : Int32)) fun M51 => (if ((M51.2.1 11) v4.toNatClampNeg) = 1 then (k_bind (f_X4_clears v4 M51) fun r53 M53 => (k_let (mA M53 11 v4.toNatClampNeg (0 : Int32)) fun M54 => (k_let (mA M54 22 v4.toNatClampNeg (1 : Int32)) fun M55 => f_X4_fall_84 (fun (v2 : Int32) (v3 : Int32) (v4 : Int32) (M : MS) => f_X4_fall_31  k v2 v3 v4 M) v2 v3 v4 M55))) else f_X4_fall_84 (fun (v2 : Int32) (v3 : Int32) (v4 : Int32) (M : MS) => f_X4_fall_31  k v2 v3 v4 M) v2 v3 v4 M51)) else none))
def f_X4_fall (x1 : Int32) (M0 : MS) : Option (Int32 × MS) := (if x1 < 0 then some (((-1) : Int32), M0) else (if x1 ≤ ((M0.1 31) - (M0.1 32)) then f_X4_fall_31  3000000 ((M0.1 32) + x1) (0 : Int32) (0 : Int32) M0 else some (((-1) : Int32), M0)))
set_option maxHeartbeats 4000000 in
set_option maxRecDepth 100000 in
theorem c_X4_fall {l : Launch} {D : va_G} {sz : Nat} {cI cZ : ClassId} {h : Nat} {ad : Nat → Nat} {M0 M' : MS} {x1 r' : Int32} (hf : f_X4_fall x1 M0 = some (r', M')) : Met l yX4_fall wsX4_fall ({ frames := 1, cells := 0, slots := 0, locals := 22 }) (va_Pc [.ref h, .int x1] (k_Pre D [(cI, .int), (cZ, .boolean)] (mW cI cZ h ad M0) sz)) (va_Qi (fun (r0 : Int32) (u : va_W × List (ClassId × FieldType)) => r0 = r' ∧ u = (mW cI cZ h ad M', [(cI, .int), (cZ, .boolean)]) ∧ M'.2.2 = M0.2.2) (k_B D (va_A (mW cI cZ h ad M0) sz)) (va_A (mW cI cZ h ad M0) sz)) (0) (0) (va_A (mW cI cZ h ad M0) sz) := by
  refine Met.ofW (cc := cX4_fall) (maxL := 8) (ret := (some .int)) (by decide) rfl ?_
  intro p e s m args below meth c s₁ B hml hv
  obtain ⟨rfl, hsz, hP, hK, hD0⟩ := hv
  have hx := B.exec
  have hb := B.bytes
  have hr := B.returns
  have hts := atoms_spec (ws := wsX4_fall) B.pre
  have hown : s.vm.findClass RX4 = some m.cls := findClass_of_methodNamed B.named
  have hlocks := B.notSynchronized
  subst hsz
  have hD := hD0.self (sz := s.heap.size)
  generalize hAe : va_A (mW cI cZ h ad M0) s.heap.size = A at hD ⊢
  have hA : ∀ q : Nat, s.heap.size ≤ q → A q := fun q h => by rw [← hAe]; exact Or.inr h
  have hS : va_S A s.heap s.heap [] := va_S.rf
  have hl := lv_entry ([.ref h, .int x1]) (n := 8) (Nat.le_of_ble_eq_true rfl)
  rw [lg_entry_eq]
  generalize (lg_sl ([.ref h, .int x1]) ++ List.replicate (8 - (lg_sl ([.ref h, .int x1])).length) Slot.unset).toArray = ls at hl ⊢
  have hl : lv_has ls 8 [(0, .ref h), (1, .int x1)] := hl
  refine k_Q (fun Q hQ => ?_)
  have B427 : ∀  (k : Nat), ∀ (v3 : Int32) (v4 : Int32)  (M : MS)  (H : Heap) (locs : List Loc) (ls : Array Slot), f_X4_fall_427  k v3 v4 M = some (r', M') → M.2.2 = M0.2.2 → va_P D vwCl (mW cI cZ h ad M) H → va_D A (mW cI cZ h ad M) → va_S A s.heap H locs → lv_has ls 8 [(0, .ref h), (3, .int v3), (4, .int v4)] → W p l e (headSpec wsX4_fall ({ frames := 1, cells := 0, slots := 0, locals := 22 })).room s m ([.ref h, .int x1] : List Value).toArray below meth c H locs (0) (0) Q (F0 m 427 ls []) := by
    intro  k
    induction k with
    | zero =>
      intro v3 v4  M  H locs ls hq hg hP hD hS hl
      exact absurd hq (by rw [f_X4_fall_427]; exact k_non)
    | succ k ih =>
      intro v3 v4  M  H locs ls hq hg hP hD hS hl
      rw [f_X4_fall_427] at hq
      refine lv_iload hx hb dX4_fall_427 (lv_at hl 2 rfl) ?_
      refine lv_aload_n hx hb dX4_fall_429 rfl (lv_at hl 0 rfl) ?_
      refine va_get (D := D) (ci := 4) (v := .int (M.1 29)) (C := RX4) (T := TX4) (N := 39) hx hb hts kin_X4_fall_X4 hown hK hP 0 rfl rfl 29 (by decide) (hts _ kw_X4_fall__fieldLink_RX4_168_ActHouseModel_dones_I_) (fun _ h9 => h9) rfl dX4_fall_430 ?_
      refine lv_icmp_ge (tgt := 453) hx hb dX4_fall_433 (by decide) (fun c9 => ?_) (fun c9 => ?_)
      · skip
        rw [if_pos c9] at hq
        refine lv_aload_n hx hb dX4_fall_453 rfl (lv_at hl 0 rfl) ?_
        obtain ⟨r10, M10, h10, hq⟩ := k_bd hq
        have hFc := k_free hD hS hA
        refine va_callv (va_runV (As := []) (rest := []) ⟨hx, hb, hml, hown, hts⟩ (c_X4_keeps (l := l) (D := D) (cI := cI) (cZ := cZ) (h := h) (ad := ad)  (hf := h10)) (cwV 0 hts gX4_fall_X4_keeps rfl rfl rfl (by decide +kernel) ⟨Nat.le_of_ble_eq_true rfl, Nat.le_of_ble_eq_true rfl⟩) ⟨k_blind, va_recv hK hP (ci := 4) (q0 := 0) rfl rfl, fun U hU hW => ⟨rfl, k_pre hU hW hP hK hD⟩⟩ rfl rfl hl.1 rfl (lv_room (Nat.le_of_ble_eq_true rfl)) dX4_fall_454 ⟨by decide, by decide⟩) hS (fun q _ h => hFc q h) hFc (fun u t H1 locs ht hvm hw hB hz1 hk1 hS => ?_)
        obtain ⟨rfl, hg10⟩ := hw
        have hg10 : M10.2.2 = M.2.2 := hg10
        refine W.widen (k := 0) (n := 0) (Nat.le_refl _) (Nat.le_refl _) ?_
        obtain ⟨hP1, hK1, hD1⟩ := hB
        rw [ht] at hP1
        have hP := hP1
        have hD := k_weak hD1 hFc
        generalize H1 = H at hP hS ⊢
        have hP : va_P D vwCl (mW cI cZ h ad M10) _ := hP
        have hD : va_D A (mW cI cZ h ad M10) := hD
        refine lv_aload_n hx hb dX4_fall_457 rfl (lv_at hl 0 rfl) ?_
        refine lv_dup hx hb dX4_fall_458 rfl ?_
        refine va_get (D := D) (ci := 4) (v := .int (M10.1 35)) (C := RX4) (T := TX4) (N := 39) hx hb hts kin_X4_fall_X4 hown hK hP 0 rfl rfl 35 (by decide) (hts _ kw_X4_fall__fieldLink_RX4_205_ActHouseModel_falls_I_) (fun _ h9 => h9) rfl dX4_fall_459 ?_
        refine lv_iconst (v := 1) hx hb dX4_fall_462 (by decide) ?_
        refine lv_iadd hx hb dX4_fall_463 ?_
        refine va_put (D := D) (ci := 4) (v := .int ((M10.1 35) + 1)) (ty := .int) (C := RX4) (T := TX4) (N := 39) hx hb hts kin_X4_fall_X4 tyX4 tyX4_ok nmX4 hown hK hP hD hS 0 (fs := mF ad M10) rfl rfl 35 (by decide) (hts _ kw_X4_fall__fieldLink_RX4_205_ActHouseModel_falls_I_) (fun _ h9 => h9) rfl (by decide +kernel) rfl rfl (Nat.le_of_ble_eq_true rfl) dX4_fall_464 (fun H locs hP hD hS => ?_)
        obtain ⟨M11, eM11, hg11, hq⟩ := k_lI hq
        rw [mW_I35, ← eM11] at hP hD
        have hP : va_P D vwCl (mW cI cZ h ad M11) _ := hP
        have hD : va_D A (mW cI cZ h ad M11) := hD
        refine lv_iload_n hx hb dX4_fall_467 rfl (lv_at hl 1 rfl) ?_
        obtain ⟨e2, e3⟩ := k_so hq
        subst hQ
        have hP : va_P D vwCl (mW cI cZ h ad M11) _ := hP
        have hD : va_D A (mW cI cZ h ad M11) := hD
        refine W.widen (k := 0) (n := 0) (by decide) (by decide) ?_
        have hgE := congrArg (fun X : MS => X.2.2) e3
        have hgE : M11.2.2 = M'.2.2 := hgE
        exact W.iret (v := v3) hx hb hr (fun t ht hW => ⟨⟨v3, (mW cI cZ h ad M11, [(cI, .int), (cZ, .boolean)]), rfl, ⟨e2, (congrArg (fun X : MS => ((mW cI cZ h ad X, [(cI, .int), (cZ, .boolean)]) : va_W × List (ClassId × FieldType))) e3), by omega⟩, ⟨by rw [ht]; exact hP, va_K.moved hW.alike hK, hD⟩⟩, hS.F ht⟩) hS.2.2 dX4_fall_468
      · skip
        rw [if_neg c9] at hq
        refine lv_aload_n hx hb dX4_fall_436 rfl (lv_at hl 0 rfl) ?_
        refine lv_aload_n hx hb dX4_fall_437 rfl (lv_at hl 0 rfl) ?_
        refine va_get (D := D) (ci := 4) (v := .ref (ad 30)) (C := RX4) (T := TX4) (N := 39) hx hb hts kin_X4_fall_X4 hown hK hP 0 rfl rfl 30 (by decide) (hts _ kw_X4_fall__fieldLink_RX4_92_ActHouseModel_done_I_) (fun _ h9 => h9) rfl dX4_fall_438 ?_
        refine lv_iload hx hb dX4_fall_441 (lv_at hl 2 rfl) ?_
        obtain ⟨b12, hq⟩ := k_if hq
        refine va_iald hx hb hK hP 28 0 (f := (M.2.1 30)) rfl rfl (k_in b12.1 b12.2) dX4_fall_443 ?_
        obtain ⟨r13, M13, h13, hq⟩ := k_bd hq
        have hFc := k_free hD hS hA
        refine va_callv (va_runV (As := [.int ((M.2.1 30) v4.toNatClampNeg)]) (rest := []) ⟨hx, hb, hml, hown, hts⟩ (c_X4_gets (l := l) (D := D) (cI := cI) (cZ := cZ) (h := h) (ad := ad)  (hf := h13)) (cwV 1 hts gX4_fall_X4_gets rfl rfl rfl (by decide +kernel) ⟨Nat.le_of_ble_eq_true rfl, Nat.le_of_ble_eq_true rfl⟩) ⟨k_blind, va_recv hK hP (ci := 4) (q0 := 0) rfl rfl, fun U hU hW => ⟨rfl, k_pre hU hW hP hK hD⟩⟩ rfl rfl hl.1 rfl (lv_room (Nat.le_of_ble_eq_true rfl)) dX4_fall_444 ⟨by decide, by decide⟩) hS (fun q _ h => hFc q h) hFc (fun u t H1 locs ht hvm hw hB hz1 hk1 hS => ?_)
        obtain ⟨rfl, hg13⟩ := hw
        have hg13 : M13.2.2 = M.2.2 := hg13
        refine W.widen (k := 0) (n := 0) (Nat.le_refl _) (Nat.le_refl _) ?_
        obtain ⟨hP1, hK1, hD1⟩ := hB
        rw [ht] at hP1
        have hP := hP1
        have hD := k_weak hD1 hFc
        generalize H1 = H at hP hS ⊢
        have hP : va_P D vwCl (mW cI cZ h ad M13) _ := hP
        have hD : va_D A (mW cI cZ h ad M13) := hD
        refine lv_iinc (v := v4 + 1) (lv' := [(4, .int (v4 + 1)), (0, .ref h), (3, .int v3)]) hx hb dX4_fall_447 hl (k := 2) rfl (by rfl) (by decide) rfl (fun ls hl => ?_)
        refine lv_goto (tgt := 427) hx hb dX4_fall_450 (by decide) ?_
        exact ih v3 (v4 + 1) M13  _ _ _ hq (by show M13.2.2 = M0.2.2; omega) hP hD hS (lv_sub hl [1, 2, 0] rfl)
  have B403 : ∀  (k : Nat), ∀ (v3 : Int32) (v4 : Int32)  (M : MS)  (H : Heap) (locs : List Loc) (ls : Array Slot), f_X4_fall_403  k v3 v4 M = some (r', M') → M.2.2 = M0.2.2 → va_P D vwCl (mW cI cZ h ad M) H → va_D A (mW cI cZ h ad M) → va_S A s.heap H locs → lv_has ls 8 [(0, .ref h), (3, .int v3), (4, .int v4)] → W p l e (headSpec wsX4_fall ({ frames := 1, cells := 0, slots := 0, locals := 22 })).room s m ([.ref h, .int x1] : List Value).toArray below meth c H locs (0) (0) Q (F0 m 403 ls []) := by
    intro  k
    induction k with
    | zero =>
      intro v3 v4  M  H locs ls hq hg hP hD hS hl
      exact absurd hq (by rw [f_X4_fall_403]; exact k_non)
    | succ k ih =>
      intro v3 v4  M  H locs ls hq hg hP hD hS hl
      rw [f_X4_fall_403] at hq
      refine lv_iload hx hb dX4_fall_403 (lv_at hl 2 rfl) ?_
      refine lv_bipush (v := 8) hx hb dX4_fall_405 (by decide) ?_
      refine lv_icmp_ge (tgt := 424) hx hb dX4_fall_407 (by decide) (fun c8 => ?_) (fun c8 => ?_)
      · skip
        rw [if_pos c8] at hq
        refine lv_iconst (v := 0) hx hb dX4_fall_424 (by decide) ?_
        refine lv_istore (lv' := [(4, .int 0), (0, .ref h), (3, .int v3)]) hx hb dX4_fall_425 hl (by decide) rfl (fun ls hl => ?_)
        exact B427  3000000 v3 (0 : Int32) M  _ _ _ hq (by show M.2.2 = M0.2.2; omega) hP hD hS (lv_sub hl [1, 2, 0] rfl)
      · skip
        rw [if_neg c8] at hq
        refine lv_aload_n hx hb dX4_fall_410 rfl (lv_at hl 0 rfl) ?_
        refine va_get (D := D) (ci := 4) (v := .ref (ad 2)) (C := RX4) (T := TX4) (N := 39) hx hb hts kin_X4_fall_X4 hown hK hP 0 rfl rfl 2 (by decide) (hts _ kw_X4_fall__fieldLink_RX4_13_ActHouseModel_counters_I_) (fun _ h9 => h9) rfl dX4_fall_411 ?_
        refine lv_iload hx hb dX4_fall_414 (lv_at hl 2 rfl) ?_
        refine lv_iconst (v := 0) hx hb dX4_fall_416 (by decide) ?_
        obtain ⟨b14, hq⟩ := k_if hq
        refine va_iast hx hb hK hP hD hS 2 0 (f := (M.2.1 2)) rfl rfl (x := 0) (k_in b14.1 b14.2) dX4_fall_417 (fun H locs hP hD hS => ?_)
        obtain ⟨M15, eM15, hg15, hq⟩ := k_lA hq
        rw [mW_A2, ← eM15] at hP hD
        have hP : va_P D vwCl (mW cI cZ h ad M15) _ := hP
        have hD : va_D A (mW cI cZ h ad M15) := hD
        refine lv_iinc (v := v4 + 1) (lv' := [(4, .int (v4 + 1)), (0, .ref h), (3, .int v3)]) hx hb dX4_fall_418 hl (k := 2) rfl (by rfl) (by decide) rfl (fun ls hl => ?_)
        refine lv_goto (tgt := 403) hx hb dX4_fall_421 (by decide) ?_
        exact ih v3 (v4 + 1) M15  _ _ _ hq (by show M15.2.2 = M0.2.2; omega) hP hD hS (lv_sub hl [1, 2, 0] rfl)
  have B379 : ∀  (k : Nat), ∀ (v3 : Int32) (v4 : Int32)  (M : MS)  (H : Heap) (locs : List Loc) (ls : Array Slot), f_X4_fall_379  k v3 v4 M = some (r', M') → M.2.2 = M0.2.2 → va_P D vwCl (mW cI cZ h ad M) H → va_D A (mW cI cZ h ad M) → va_S A s.heap H locs → lv_has ls 8 [(0, .ref h), (3, .int v3), (4, .int v4)] → W p l e (headSpec wsX4_fall ({ frames := 1, cells := 0, slots := 0, locals := 22 })).room s m ([.ref h, .int x1] : List Value).toArray below meth c H locs (0) (0) Q (F0 m 379 ls []) := by
    intro  k
    induction k with
    | zero =>
      intro v3 v4  M  H locs ls hq hg hP hD hS hl
      exact absurd hq (by rw [f_X4_fall_379]; exact k_non)
    | succ k ih =>
      intro v3 v4  M  H locs ls hq hg hP hD hS hl
      rw [f_X4_fall_379] at hq
      refine lv_iload hx hb dX4_fall_379 (lv_at hl 2 rfl) ?_
      refine lv_bipush (v := 24) hx hb dX4_fall_381 (by decide) ?_
      refine lv_icmp_ge (tgt := 400) hx hb dX4_fall_383 (by decide) (fun c7 => ?_) (fun c7 => ?_)
      · skip
        rw [if_pos c7] at hq
        refine lv_iconst (v := 0) hx hb dX4_fall_400 (by decide) ?_
        refine lv_istore (lv' := [(4, .int 0), (0, .ref h), (3, .int v3)]) hx hb dX4_fall_401 hl (by decide) rfl (fun ls hl => ?_)
        exact B403  3000000 v3 (0 : Int32) M  _ _ _ hq (by show M.2.2 = M0.2.2; omega) hP hD hS (lv_sub hl [1, 2, 0] rfl)
      · skip
        rw [if_neg c7] at hq
        refine lv_aload_n hx hb dX4_fall_386 rfl (lv_at hl 0 rfl) ?_
        refine va_get (D := D) (ci := 4) (v := .ref (ad 1)) (C := RX4) (T := TX4) (N := 39) hx hb hts kin_X4_fall_X4 hown hK hP 0 rfl rfl 1 (by decide) (hts _ kw_X4_fall__fieldLink_RX4_9_ActHouseModel_cells_I_) (fun _ h9 => h9) rfl dX4_fall_387 ?_
        refine lv_iload hx hb dX4_fall_390 (lv_at hl 2 rfl) ?_
        refine lv_iconst (v := 0) hx hb dX4_fall_392 (by decide) ?_
        obtain ⟨b16, hq⟩ := k_if hq
        refine va_iast hx hb hK hP hD hS 1 0 (f := (M.2.1 1)) rfl rfl (x := 0) (k_in b16.1 b16.2) dX4_fall_393 (fun H locs hP hD hS => ?_)
        obtain ⟨M17, eM17, hg17, hq⟩ := k_lA hq
        rw [mW_A1, ← eM17] at hP hD
        have hP : va_P D vwCl (mW cI cZ h ad M17) _ := hP
        have hD : va_D A (mW cI cZ h ad M17) := hD
        refine lv_iinc (v := v4 + 1) (lv' := [(4, .int (v4 + 1)), (0, .ref h), (3, .int v3)]) hx hb dX4_fall_394 hl (k := 2) rfl (by rfl) (by decide) rfl (fun ls hl => ?_)
        refine lv_goto (tgt := 379) hx hb dX4_fall_397 (by decide) ?_
        exact ih v3 (v4 + 1) M17  _ _ _ hq (by show M17.2.2 = M0.2.2; omega) hP hD hS (lv_sub hl [1, 2, 0] rfl)
  have B370 : ∀ (K291 : Int32 → Int32 → MS → Option (Int32 × MS)) (hK291 : ∀ (v3 : Int32) (v4 : Int32)  (M : MS)  (H : Heap) (locs : List Loc) (ls : Array Slot), K291 v3 v4 M = some (r', M') → M.2.2 = M0.2.2 → va_P D vwCl (mW cI cZ h ad M) H → va_D A (mW cI cZ h ad M) → va_S A s.heap H locs → lv_has ls 8 [(0, .ref h), (3, .int v3), (4, .int v4)] → W p l e (headSpec wsX4_fall ({ frames := 1, cells := 0, slots := 0, locals := 22 })).room s m ([.ref h, .int x1] : List Value).toArray below meth c H locs (0) (0) Q (F0 m 291 ls [])), ∀ (v3 : Int32) (v4 : Int32)  (M : MS)  (H : Heap) (locs : List Loc) (ls : Array Slot), f_X4_fall_370 K291 v3 v4 M = some (r', M') → M.2.2 = M0.2.2 → va_P D vwCl (mW cI cZ h ad M) H → va_D A (mW cI cZ h ad M) → va_S A s.heap H locs → lv_has ls 8 [(0, .ref h), (3, .int v3), (4, .int v4)] → W p l e (headSpec wsX4_fall ({ frames := 1, cells := 0, slots := 0, locals := 22 })).room s m ([.ref h, .int x1] : List Value).toArray below meth c H locs (0) (0) Q (F0 m 370 ls []) := by
    intro K291 hK291
    intro v3 v4  M  H locs ls hq hg hP hD hS hl
    rw [f_X4_fall_370] at hq
    refine lv_iinc (v := v4 + 1) (lv' := [(4, .int (v4 + 1)), (0, .ref h), (3, .int v3)]) hx hb dX4_fall_370 hl (k := 2) rfl (by rfl) (by decide) rfl (fun ls hl => ?_)
    refine lv_goto (tgt := 291) hx hb dX4_fall_373 (by decide) ?_
    exact hK291 v3 (v4 + 1) M  _ _ _ hq (by show M.2.2 = M0.2.2; omega) hP hD hS (lv_sub hl [1, 2, 0] rfl)
  have B333 : ∀ (K291 : Int32 → Int32 → MS → Option (Int32 × MS)) (hK291 : ∀ (v3 : Int32) (v4 : Int32)  (M : MS)  (H : Heap) (locs : List Loc) (ls : Array Slot), K291 v3 v4 M = some (r', M') → M.2.2 = M0.2.2 → va_P D vwCl (mW cI cZ h ad M) H → va_D A (mW cI cZ h ad M) → va_S A s.heap H locs → lv_has ls 8 [(0, .ref h), (3, .int v3), (4, .int v4)] → W p l e (headSpec wsX4_fall ({ frames := 1, cells := 0, slots := 0, locals := 22 })).room s m ([.ref h, .int x1] : List Value).toArray below meth c H locs (0) (0) Q (F0 m 291 ls [])), ∀ (v3 : Int32) (v4 : Int32) (s0 : Int32) (s1 : Int32) (s2 : Int32)  (M : MS)  (H : Heap) (locs : List Loc) (ls : Array Slot), f_X4_fall_333 K291 v3 v4 s0 s1 s2 M = some (r', M') → M.2.2 = M0.2.2 → va_P D vwCl (mW cI cZ h ad M) H → va_D A (mW cI cZ h ad M) → va_S A s.heap H locs → lv_has ls 8 [(0, .ref h), (3, .int v3), (4, .int v4)] → W p l e (headSpec wsX4_fall ({ frames := 1, cells := 0, slots := 0, locals := 22 })).room s m ([.ref h, .int x1] : List Value).toArray below meth c H locs (0) (0) Q (F0 m 333 ls [.int s0, .int s1, .int s2, .ref (ad 18)]) := by
    intro K291 hK291
    intro v3 v4 s0 s1 s2  M  H locs ls hq hg hP hD hS hl
    rw [f_X4_fall_333] at hq
    refine lv_iadd hx hb dX4_fall_333 ?_
    obtain ⟨b20, hq⟩ := k_if hq
    refine va_iast hx hb hK hP hD hS 17 0 (f := (M.2.1 18)) rfl rfl (x := (s1 + s0)) (k_in b20.1 b20.2) dX4_fall_334 (fun H locs hP hD hS => ?_)
    obtain ⟨M21, eM21, hg21, hq⟩ := k_lA hq
    rw [mW_A18, ← eM21] at hP hD
    have hP : va_P D vwCl (mW cI cZ h ad M21) _ := hP
    have hD : va_D A (mW cI cZ h ad M21) := hD
    refine lv_aload_n hx hb dX4_fall_335 rfl (lv_at hl 0 rfl) ?_
    refine va_get (D := D) (ci := 4) (v := .ref (ad 21)) (C := RX4) (T := TX4) (N := 39) hx hb hts kin_X4_fall_X4 hown hK hP 0 rfl rfl 21 (by decide) (hts _ kw_X4_fall__fieldLink_RX4_68_ActHouseModel_isVoid_Z_) (fun _ h9 => h9) rfl dX4_fall_336 ?_
    refine lv_iload hx hb dX4_fall_339 (lv_at hl 2 rfl) ?_
    obtain ⟨b22, hq⟩ := k_if hq
    refine va_zald hx hb hK hP 20 1 (f := (M21.2.1 21)) rfl rfl (k_in b22.1 b22.2) dX4_fall_341 ?_
    refine lv_if_ne (tgt := 348) hx hb dX4_fall_342 (by decide) (fun c23 => ?_) (fun c23 => ?_)
    · skip
      rw [if_neg c23] at hq
      refine lv_aload_n hx hb dX4_fall_348 rfl (lv_at hl 0 rfl) ?_
      refine lv_iload hx hb dX4_fall_349 (lv_at hl 2 rfl) ?_
      obtain ⟨r24, M24, h24, hq⟩ := k_bd hq
      have hFc := k_free hD hS hA
      refine va_callv (va_runV (As := [.int v4]) (rest := []) ⟨hx, hb, hml, hown, hts⟩ (c_X4_clears (l := l) (D := D) (cI := cI) (cZ := cZ) (h := h) (ad := ad)  (hf := h24)) (cwV 1 hts gX4_fall_X4_clears rfl rfl rfl (by decide +kernel) ⟨Nat.le_of_ble_eq_true rfl, Nat.le_of_ble_eq_true rfl⟩) ⟨k_blind, va_recv hK hP (ci := 4) (q0 := 0) rfl rfl, fun U hU hW => ⟨rfl, k_pre hU hW hP hK hD⟩⟩ rfl rfl hl.1 rfl (lv_room (Nat.le_of_ble_eq_true rfl)) dX4_fall_351 ⟨by decide, by decide⟩) hS (fun q _ h => hFc q h) hFc (fun u t H1 locs ht hvm hw hB hz1 hk1 hS => ?_)
      obtain ⟨rfl, hg24⟩ := hw
      have hg24 : M24.2.2 = M21.2.2 := hg24
      refine W.widen (k := 0) (n := 0) (Nat.le_refl _) (Nat.le_refl _) ?_
      obtain ⟨hP1, hK1, hD1⟩ := hB
      rw [ht] at hP1
      have hP := hP1
      have hD := k_weak hD1 hFc
      generalize H1 = H at hP hS ⊢
      have hP : va_P D vwCl (mW cI cZ h ad M24) _ := hP
      have hD : va_D A (mW cI cZ h ad M24) := hD
      refine lv_aload_n hx hb dX4_fall_354 rfl (lv_at hl 0 rfl) ?_
      refine va_get (D := D) (ci := 4) (v := .ref (ad 11)) (C := RX4) (T := TX4) (N := 39) hx hb hts kin_X4_fall_X4 hown hK hP 0 rfl rfl 11 (by decide) (hts _ kw_X4_fall__fieldLink_RX4_37_ActHouseModel_state_I_) (fun _ h9 => h9) rfl dX4_fall_355 ?_
      refine lv_iload hx hb dX4_fall_358 (lv_at hl 2 rfl) ?_
      refine lv_iconst (v := 4) hx hb dX4_fall_360 (by decide) ?_
      refine va_iast hx hb hK hP hD hS 10 0 (f := (M24.2.1 11)) rfl rfl (x := 4) (k_in b22.1 b22.2) dX4_fall_361 (fun H locs hP hD hS => ?_)
      obtain ⟨M25, eM25, hg25, hq⟩ := k_lA hq
      rw [mW_A11, ← eM25] at hP hD
      have hP : va_P D vwCl (mW cI cZ h ad M25) _ := hP
      have hD : va_D A (mW cI cZ h ad M25) := hD
      refine lv_aload_n hx hb dX4_fall_362 rfl (lv_at hl 0 rfl) ?_
      refine va_get (D := D) (ci := 4) (v := .ref (ad 17)) (C := RX4) (T := TX4) (N := 39) hx hb hts kin_X4_fall_X4 hown hK hP 0 rfl rfl 17 (by decide) (hts _ kw_X4_fall__fieldLink_RX4_56_ActHouseModel_doneIn_I_) (fun _ h9 => h9) rfl dX4_fall_363 ?_
      refine lv_iload hx hb dX4_fall_366 (lv_at hl 2 rfl) ?_
      refine lv_iconst (v := (-1)) hx hb dX4_fall_368 (by decide) ?_
      refine va_iast hx hb hK hP hD hS 16 0 (f := (M25.2.1 17)) rfl rfl (x := (-1)) (k_in b22.1 b22.2) dX4_fall_369 (fun H locs hP hD hS => ?_)
      obtain ⟨M26, eM26, hg26, hq⟩ := k_lA hq
      rw [mW_A17, ← eM26] at hP hD
      have hP : va_P D vwCl (mW cI cZ h ad M26) _ := hP
      have hD : va_D A (mW cI cZ h ad M26) := hD
      exact B370 K291 hK291 v3 v4 M26  _ _ _ hq (by show M26.2.2 = M0.2.2; omega) hP hD hS (lv_sub hl [0, 1, 2] rfl)
    · skip
      rw [if_pos c23] at hq
      refine lv_goto (tgt := 370) hx hb dX4_fall_345 (by decide) ?_
      exact B370 K291 hK291 v3 v4 M21  _ _ _ hq (by show M21.2.2 = M0.2.2; omega) hP hD hS (lv_sub hl [0, 1, 2] rfl)
  have B332 : ∀ (K291 : Int32 → Int32 → MS → Option (Int32 × MS)) (hK291 : ∀ (v3 : Int32) (v4 : Int32)  (M : MS)  (H : Heap) (locs : List Loc) (ls : Array Slot), K291 v3 v4 M = some (r', M') → M.2.2 = M0.2.2 → va_P D vwCl (mW cI cZ h ad M) H → va_D A (mW cI cZ h ad M) → va_S A s.heap H locs → lv_has ls 8 [(0, .ref h), (3, .int v3), (4, .int v4)] → W p l e (headSpec wsX4_fall ({ frames := 1, cells := 0, slots := 0, locals := 22 })).room s m ([.ref h, .int x1] : List Value).toArray below meth c H locs (0) (0) Q (F0 m 291 ls [])), ∀ (v3 : Int32) (v4 : Int32) (s0 : Int32) (s1 : Int32)  (M : MS)  (H : Heap) (locs : List Loc) (ls : Array Slot), f_X4_fall_332 K291 v3 v4 s0 s1 M = some (r', M') → M.2.2 = M0.2.2 → va_P D vwCl (mW cI cZ h ad M) H → va_D A (mW cI cZ h ad M) → va_S A s.heap H locs → lv_has ls 8 [(0, .ref h), (3, .int v3), (4, .int v4)] → W p l e (headSpec wsX4_fall ({ frames := 1, cells := 0, slots := 0, locals := 22 })).room s m ([.ref h, .int x1] : List Value).toArray below meth c H locs (0) (0) Q (F0 m 332 ls [.int s0, .int s1, .ref (ad 18)]) := by
    intro K291 hK291
    intro v3 v4 s0 s1  M  H locs ls hq hg hP hD hS hl
    rw [f_X4_fall_332] at hq
    refine lv_iconst (v := 0) hx hb dX4_fall_332 (by decide) ?_
    exact B333 K291 hK291 v3 v4 (0 : Int32) s0 s1 M  _ _ _ hq (by show M.2.2 = M0.2.2; omega) hP hD hS (lv_sub hl [0, 1, 2] rfl)
  have B291 : ∀  (k : Nat), ∀ (v3 : Int32) (v4 : Int32)  (M : MS)  (H : Heap) (locs : List Loc) (ls : Array Slot), f_X4_fall_291  k v3 v4 M = some (r', M') → M.2.2 = M0.2.2 → va_P D vwCl (mW cI cZ h ad M) H → va_D A (mW cI cZ h ad M) → va_S A s.heap H locs → lv_has ls 8 [(0, .ref h), (3, .int v3), (4, .int v4)] → W p l e (headSpec wsX4_fall ({ frames := 1, cells := 0, slots := 0, locals := 22 })).room s m ([.ref h, .int x1] : List Value).toArray below meth c H locs (0) (0) Q (F0 m 291 ls []) := by
    intro  k
    induction k with
    | zero =>
      intro v3 v4  M  H locs ls hq hg hP hD hS hl
      exact absurd hq (by rw [f_X4_fall_291]; exact k_non)
    | succ k ih =>
      intro v3 v4  M  H locs ls hq hg hP hD hS hl
      rw [f_X4_fall_291] at hq
      refine lv_iload hx hb dX4_fall_291 (lv_at hl 2 rfl) ?_
      refine lv_aload_n hx hb dX4_fall_293 rfl (lv_at hl 0 rfl) ?_
      refine va_get (D := D) (ci := 4) (v := .int (M.1 7)) (C := RX4) (T := TX4) (N := 39) hx hb hts kin_X4_fall_X4 hown hK hP 0 rfl rfl 7 (by decide) (hts _ kw_X4_fall__fieldLink_RX4_111_ActHouseModel_acts_I_) (fun _ h9 => h9) rfl dX4_fall_294 ?_
      refine lv_icmp_ge (tgt := 376) hx hb dX4_fall_297 (by decide) (fun c6 => ?_) (fun c6 => ?_)
      · skip
        rw [if_pos c6] at hq
        refine lv_iconst (v := 0) hx hb dX4_fall_376 (by decide) ?_
        refine lv_istore (lv' := [(4, .int 0), (0, .ref h), (3, .int v3)]) hx hb dX4_fall_377 hl (by decide) rfl (fun ls hl => ?_)
        exact B379  3000000 v3 (0 : Int32) M  _ _ _ hq (by show M.2.2 = M0.2.2; omega) hP hD hS (lv_sub hl [1, 2, 0] rfl)
      · skip
        rw [if_neg c6] at hq
        refine lv_aload_n hx hb dX4_fall_300 rfl (lv_at hl 0 rfl) ?_
        refine va_get (D := D) (ci := 4) (v := .ref (ad 18)) (C := RX4) (T := TX4) (N := 39) hx hb hts kin_X4_fall_X4 hown hK hP 0 rfl rfl 18 (by decide) (hts _ kw_X4_fall__fieldLink_RX4_59_ActHouseModel_undone_I_) (fun _ h9 => h9) rfl dX4_fall_301 ?_
        refine lv_iload hx hb dX4_fall_304 (lv_at hl 2 rfl) ?_
        refine lv_dup2_11 hx hb dX4_fall_306 rfl rfl ?_
        obtain ⟨b18, hq⟩ := k_if hq
        refine va_iald hx hb hK hP 17 0 (f := (M.2.1 18)) rfl rfl (k_in b18.1 b18.2) dX4_fall_307 ?_
        refine lv_aload_n hx hb dX4_fall_308 rfl (lv_at hl 0 rfl) ?_
        refine va_get (D := D) (ci := 4) (v := .ref (ad 22)) (C := RX4) (T := TX4) (N := 39) hx hb hts kin_X4_fall_X4 hown hK hP 0 rfl rfl 22 (by decide) (hts _ kw_X4_fall__fieldLink_RX4_71_ActHouseModel_isAgain_Z_) (fun _ h9 => h9) rfl dX4_fall_309 ?_
        refine lv_iload hx hb dX4_fall_312 (lv_at hl 2 rfl) ?_
        refine va_zald hx hb hK hP 21 1 (f := (M.2.1 22)) rfl rfl (k_in b18.1 b18.2) dX4_fall_314 ?_
        refine lv_if_eq (tgt := 332) hx hb dX4_fall_315 (by decide) (fun c19 => ?_) (fun c19 => ?_)
        · skip
          rw [if_pos c19] at hq
          exact B332 (fun (v3 : Int32) (v4 : Int32) (M : MS) => f_X4_fall_291  k v3 v4 M) ih v3 v4 ((M.2.1 18) v4.toNatClampNeg) v4 M  _ _ _ hq (by show M.2.2 = M0.2.2; omega) hP hD hS (lv_sub hl [0, 1, 2] rfl)
        · skip
          rw [if_neg c19] at hq
          refine lv_aload_n hx hb dX4_fall_318 rfl (lv_at hl 0 rfl) ?_
          refine va_get (D := D) (ci := 4) (v := .ref (ad 21)) (C := RX4) (T := TX4) (N := 39) hx hb hts kin_X4_fall_X4 hown hK hP 0 rfl rfl 21 (by decide) (hts _ kw_X4_fall__fieldLink_RX4_68_ActHouseModel_isVoid_Z_) (fun _ h9 => h9) rfl dX4_fall_319 ?_
          refine lv_iload hx hb dX4_fall_322 (lv_at hl 2 rfl) ?_
          refine va_zald hx hb hK hP 20 1 (f := (M.2.1 21)) rfl rfl (k_in b18.1 b18.2) dX4_fall_324 ?_
          refine lv_if_ne (tgt := 332) hx hb dX4_fall_325 (by decide) (fun c27 => ?_) (fun c27 => ?_)
          · skip
            rw [if_neg c27] at hq
            exact B332 (fun (v3 : Int32) (v4 : Int32) (M : MS) => f_X4_fall_291  k v3 v4 M) ih v3 v4 ((M.2.1 18) v4.toNatClampNeg) v4 M  _ _ _ hq (by show M.2.2 = M0.2.2; omega) hP hD hS (lv_sub hl [0, 1, 2] rfl)
          · skip
            rw [if_pos c27] at hq
            refine lv_iconst (v := 1) hx hb dX4_fall_328 (by decide) ?_
            refine lv_goto (tgt := 333) hx hb dX4_fall_329 (by decide) ?_
            exact B333 (fun (v3 : Int32) (v4 : Int32) (M : MS) => f_X4_fall_291  k v3 v4 M) ih v3 v4 (1 : Int32) ((M.2.1 18) v4.toNatClampNeg) v4 M  _ _ _ hq (by show M.2.2 = M0.2.2; omega) hP hD hS (lv_sub hl [0, 1, 2] rfl)
  have B277 : ∀ (K93 : Int32 → Int32 → Int32 → MS → Option (Int32 × MS)) (hK93 : ∀ (v2 : Int32) (v3 : Int32) (v4 : Int32)  (M : MS)  (H : Heap) (locs : List Loc) (ls : Array Slot), K93 v2 v3 v4 M = some (r', M') → M.2.2 = M0.2.2 → va_P D vwCl (mW cI cZ h ad M) H → va_D A (mW cI cZ h ad M) → va_S A s.heap H locs → lv_has ls 8 [(0, .ref h), (2, .int v2), (3, .int v3), (4, .int v4)] → W p l e (headSpec wsX4_fall ({ frames := 1, cells := 0, slots := 0, locals := 22 })).room s m ([.ref h, .int x1] : List Value).toArray below meth c H locs (0) (0) Q (F0 m 93 ls [])), ∀ (v2 : Int32) (v3 : Int32) (v4 : Int32)  (M : MS)  (H : Heap) (locs : List Loc) (ls : Array Slot), f_X4_fall_277 K93 v2 v3 v4 M = some (r', M') → M.2.2 = M0.2.2 → va_P D vwCl (mW cI cZ h ad M) H → va_D A (mW cI cZ h ad M) → va_S A s.heap H locs → lv_has ls 8 [(0, .ref h), (2, .int v2), (3, .int v3), (4, .int v4)] → W p l e (headSpec wsX4_fall ({ frames := 1, cells := 0, slots := 0, locals := 22 })).room s m ([.ref h, .int x1] : List Value).toArray below meth c H locs (0) (0) Q (F0 m 277 ls []) := by
    intro K93 hK93
    intro v2 v3 v4  M  H locs ls hq hg hP hD hS hl
    rw [f_X4_fall_277] at hq
    refine lv_iinc (v := v4 + 1) (lv' := [(4, .int (v4 + 1)), (0, .ref h), (2, .int v2), (3, .int v3)]) hx hb dX4_fall_277 hl (k := 3) rfl (by rfl) (by decide) rfl (fun ls hl => ?_)
    refine lv_goto (tgt := 93) hx hb dX4_fall_280 (by decide) ?_
    exact hK93 v2 v3 (v4 + 1) M  _ _ _ hq (by show M.2.2 = M0.2.2; omega) hP hD hS (lv_sub hl [1, 2, 3, 0] rfl)
  have B270 : ∀ (K93 : Int32 → Int32 → Int32 → MS → Option (Int32 × MS)) (hK93 : ∀ (v2 : Int32) (v3 : Int32) (v4 : Int32)  (M : MS)  (H : Heap) (locs : List Loc) (ls : Array Slot), K93 v2 v3 v4 M = some (r', M') → M.2.2 = M0.2.2 → va_P D vwCl (mW cI cZ h ad M) H → va_D A (mW cI cZ h ad M) → va_S A s.heap H locs → lv_has ls 8 [(0, .ref h), (2, .int v2), (3, .int v3), (4, .int v4)] → W p l e (headSpec wsX4_fall ({ frames := 1, cells := 0, slots := 0, locals := 22 })).room s m ([.ref h, .int x1] : List Value).toArray below meth c H locs (0) (0) Q (F0 m 93 ls [])) (K223 : Int32 → Int32 → Int32 → Int32 → Int32 → Int32 → MS → Option (Int32 × MS)) (hK223 : ∀ (v2 : Int32) (v3 : Int32) (v4 : Int32) (v5 : Int32) (v6 : Int32) (v7 : Int32)  (M : MS)  (H : Heap) (locs : List Loc) (ls : Array Slot), K223 v2 v3 v4 v5 v6 v7 M = some (r', M') → M.2.2 = M0.2.2 → va_P D vwCl (mW cI cZ h ad M) H → va_D A (mW cI cZ h ad M) → va_S A s.heap H locs → lv_has ls 8 [(0, .ref h), (2, .int v2), (3, .int v3), (4, .int v4), (5, .int v5), (6, .int v6), (7, .int v7)] → W p l e (headSpec wsX4_fall ({ frames := 1, cells := 0, slots := 0, locals := 22 })).room s m ([.ref h, .int x1] : List Value).toArray below meth c H locs (0) (0) Q (F0 m 223 ls [])), ∀ (v2 : Int32) (v3 : Int32) (v4 : Int32) (v5 : Int32) (v6 : Int32) (v7 : Int32) (s0 : Int32) (s1 : Int32)  (M : MS)  (H : Heap) (locs : List Loc) (ls : Array Slot), f_X4_fall_270 K93 K223 v2 v3 v4 v5 v6 v7 s0 s1 M = some (r', M') → M.2.2 = M0.2.2 → va_P D vwCl (mW cI cZ h ad M) H → va_D A (mW cI cZ h ad M) → va_S A s.heap H locs → lv_has ls 8 [(0, .ref h), (2, .int v2), (3, .int v3), (4, .int v4), (5, .int v5), (6, .int v6), (7, .int v7)] → W p l e (headSpec wsX4_fall ({ frames := 1, cells := 0, slots := 0, locals := 22 })).room s m ([.ref h, .int x1] : List Value).toArray below meth c H locs (0) (0) Q (F0 m 270 ls [.int s0, .int s1, .ref (ad 21)]) := by
    intro K93 hK93 K223 hK223
    intro v2 v3 v4 v5 v6 v7 s0 s1  M  H locs ls hq hg hP hD hS hl
    rw [f_X4_fall_270] at hq
    obtain ⟨b43, hq⟩ := k_if hq
    refine va_zast hx hb hK hP hD hS 20 1 (f := (M.2.1 21)) rfl rfl (x := s0) (k_in b43.1 b43.2) dX4_fall_270 (fun H locs hP hD hS => ?_)
    obtain ⟨M44, eM44, hg44, hq⟩ := k_lA hq
    rw [mW_A21, k_nb, ← eM44] at hP hD
    have hP : va_P D vwCl (mW cI cZ h ad M44) _ := hP
    have hD : va_D A (mW cI cZ h ad M44) := hD
    refine lv_iinc (v := v7 + 1) (lv' := [(7, .int (v7 + 1)), (0, .ref h), (2, .int v2), (3, .int v3), (4, .int v4), (5, .int v5), (6, .int v6)]) hx hb dX4_fall_271 hl (k := 6) rfl (by rfl) (by decide) rfl (fun ls hl => ?_)
    refine lv_goto (tgt := 223) hx hb dX4_fall_274 (by decide) ?_
    exact hK223 v2 v3 v4 v5 v6 (v7 + 1) M44  _ _ _ hq (by show M44.2.2 = M0.2.2; omega) hP hD hS (lv_sub hl [1, 2, 3, 4, 5, 6, 0] rfl)
  have B265 : ∀ (K93 : Int32 → Int32 → Int32 → MS → Option (Int32 × MS)) (hK93 : ∀ (v2 : Int32) (v3 : Int32) (v4 : Int32)  (M : MS)  (H : Heap) (locs : List Loc) (ls : Array Slot), K93 v2 v3 v4 M = some (r', M') → M.2.2 = M0.2.2 → va_P D vwCl (mW cI cZ h ad M) H → va_D A (mW cI cZ h ad M) → va_S A s.heap H locs → lv_has ls 8 [(0, .ref h), (2, .int v2), (3, .int v3), (4, .int v4)] → W p l e (headSpec wsX4_fall ({ frames := 1, cells := 0, slots := 0, locals := 22 })).room s m ([.ref h, .int x1] : List Value).toArray below meth c H locs (0) (0) Q (F0 m 93 ls [])) (K223 : Int32 → Int32 → Int32 → Int32 → Int32 → Int32 → MS → Option (Int32 × MS)) (hK223 : ∀ (v2 : Int32) (v3 : Int32) (v4 : Int32) (v5 : Int32) (v6 : Int32) (v7 : Int32)  (M : MS)  (H : Heap) (locs : List Loc) (ls : Array Slot), K223 v2 v3 v4 v5 v6 v7 M = some (r', M') → M.2.2 = M0.2.2 → va_P D vwCl (mW cI cZ h ad M) H → va_D A (mW cI cZ h ad M) → va_S A s.heap H locs → lv_has ls 8 [(0, .ref h), (2, .int v2), (3, .int v3), (4, .int v4), (5, .int v5), (6, .int v6), (7, .int v7)] → W p l e (headSpec wsX4_fall ({ frames := 1, cells := 0, slots := 0, locals := 22 })).room s m ([.ref h, .int x1] : List Value).toArray below meth c H locs (0) (0) Q (F0 m 223 ls [])), ∀ (v2 : Int32) (v3 : Int32) (v4 : Int32) (v5 : Int32) (v6 : Int32) (v7 : Int32) (s0 : Int32)  (M : MS)  (H : Heap) (locs : List Loc) (ls : Array Slot), f_X4_fall_265 K93 K223 v2 v3 v4 v5 v6 v7 s0 M = some (r', M') → M.2.2 = M0.2.2 → va_P D vwCl (mW cI cZ h ad M) H → va_D A (mW cI cZ h ad M) → va_S A s.heap H locs → lv_has ls 8 [(0, .ref h), (2, .int v2), (3, .int v3), (4, .int v4), (5, .int v5), (6, .int v6), (7, .int v7)] → W p l e (headSpec wsX4_fall ({ frames := 1, cells := 0, slots := 0, locals := 22 })).room s m ([.ref h, .int x1] : List Value).toArray below meth c H locs (0) (0) Q (F0 m 265 ls [.int s0, .ref (ad 21)]) := by
    intro K93 hK93 K223 hK223
    intro v2 v3 v4 v5 v6 v7 s0  M  H locs ls hq hg hP hD hS hl
    rw [f_X4_fall_265] at hq
    refine lv_iconst (v := 1) hx hb dX4_fall_265 (by decide) ?_
    refine lv_goto (tgt := 270) hx hb dX4_fall_266 (by decide) ?_
    exact B270 K93 hK93 K223 hK223 v2 v3 v4 v5 v6 v7 (1 : Int32) s0 M  _ _ _ hq (by show M.2.2 = M0.2.2; omega) hP hD hS (lv_sub hl [0, 1, 2, 3, 4, 5, 6] rfl)
  have B223 : ∀ (K93 : Int32 → Int32 → Int32 → MS → Option (Int32 × MS)) (hK93 : ∀ (v2 : Int32) (v3 : Int32) (v4 : Int32)  (M : MS)  (H : Heap) (locs : List Loc) (ls : Array Slot), K93 v2 v3 v4 M = some (r', M') → M.2.2 = M0.2.2 → va_P D vwCl (mW cI cZ h ad M) H → va_D A (mW cI cZ h ad M) → va_S A s.heap H locs → lv_has ls 8 [(0, .ref h), (2, .int v2), (3, .int v3), (4, .int v4)] → W p l e (headSpec wsX4_fall ({ frames := 1, cells := 0, slots := 0, locals := 22 })).room s m ([.ref h, .int x1] : List Value).toArray below meth c H locs (0) (0) Q (F0 m 93 ls [])) (k : Nat), ∀ (v2 : Int32) (v3 : Int32) (v4 : Int32) (v5 : Int32) (v6 : Int32) (v7 : Int32)  (M : MS)  (H : Heap) (locs : List Loc) (ls : Array Slot), f_X4_fall_223 K93 k v2 v3 v4 v5 v6 v7 M = some (r', M') → M.2.2 = M0.2.2 → va_P D vwCl (mW cI cZ h ad M) H → va_D A (mW cI cZ h ad M) → va_S A s.heap H locs → lv_has ls 8 [(0, .ref h), (2, .int v2), (3, .int v3), (4, .int v4), (5, .int v5), (6, .int v6), (7, .int v7)] → W p l e (headSpec wsX4_fall ({ frames := 1, cells := 0, slots := 0, locals := 22 })).room s m ([.ref h, .int x1] : List Value).toArray below meth c H locs (0) (0) Q (F0 m 223 ls []) := by
    intro K93 hK93 k
    induction k with
    | zero =>
      intro v2 v3 v4 v5 v6 v7  M  H locs ls hq hg hP hD hS hl
      exact absurd hq (by rw [f_X4_fall_223]; exact k_non)
    | succ k ih =>
      intro v2 v3 v4 v5 v6 v7  M  H locs ls hq hg hP hD hS hl
      rw [f_X4_fall_223] at hq
      refine lv_iload hx hb dX4_fall_223 (lv_at hl 6 rfl) ?_
      refine lv_aload_n hx hb dX4_fall_225 rfl (lv_at hl 0 rfl) ?_
      refine va_get (D := D) (ci := 4) (v := .int (M.1 7)) (C := RX4) (T := TX4) (N := 39) hx hb hts kin_X4_fall_X4 hown hK hP 0 rfl rfl 7 (by decide) (hts _ kw_X4_fall__fieldLink_RX4_111_ActHouseModel_acts_I_) (fun _ h9 => h9) rfl dX4_fall_226 ?_
      refine lv_icmp_ge (tgt := 277) hx hb dX4_fall_229 (by decide) (fun c39 => ?_) (fun c39 => ?_)
      · skip
        rw [if_pos c39] at hq
        exact B277 K93 hK93 v2 v3 v4 M  _ _ _ hq (by show M.2.2 = M0.2.2; omega) hP hD hS (lv_sub hl [0, 1, 2, 3] rfl)
      · skip
        rw [if_neg c39] at hq
        refine lv_iload hx hb dX4_fall_232 (lv_at hl 5 rfl) ?_
        refine lv_if_eq (tgt := 277) hx hb dX4_fall_234 (by decide) (fun c40 => ?_) (fun c40 => ?_)
        · skip
          rw [if_pos c40] at hq
          exact B277 K93 hK93 v2 v3 v4 M  _ _ _ hq (by show M.2.2 = M0.2.2; omega) hP hD hS (lv_sub hl [0, 1, 2, 3] rfl)
        · skip
          rw [if_neg c40] at hq
          refine lv_aload_n hx hb dX4_fall_237 rfl (lv_at hl 0 rfl) ?_
          refine va_get (D := D) (ci := 4) (v := .ref (ad 21)) (C := RX4) (T := TX4) (N := 39) hx hb hts kin_X4_fall_X4 hown hK hP 0 rfl rfl 21 (by decide) (hts _ kw_X4_fall__fieldLink_RX4_68_ActHouseModel_isVoid_Z_) (fun _ h9 => h9) rfl dX4_fall_238 ?_
          refine lv_iload hx hb dX4_fall_241 (lv_at hl 6 rfl) ?_
          refine lv_aload_n hx hb dX4_fall_243 rfl (lv_at hl 0 rfl) ?_
          refine va_get (D := D) (ci := 4) (v := .ref (ad 21)) (C := RX4) (T := TX4) (N := 39) hx hb hts kin_X4_fall_X4 hown hK hP 0 rfl rfl 21 (by decide) (hts _ kw_X4_fall__fieldLink_RX4_68_ActHouseModel_isVoid_Z_) (fun _ h9 => h9) rfl dX4_fall_244 ?_
          refine lv_iload hx hb dX4_fall_247 (lv_at hl 6 rfl) ?_
          obtain ⟨b41, hq⟩ := k_if hq
          refine va_zald hx hb hK hP 20 1 (f := (M.2.1 21)) rfl rfl (k_in b41.1 b41.2) dX4_fall_249 ?_
          refine lv_if_ne (tgt := 265) hx hb dX4_fall_250 (by decide) (fun c42 => ?_) (fun c42 => ?_)
          · skip
            rw [if_neg c42] at hq
            exact B265 K93 hK93 (fun (v2 : Int32) (v3 : Int32) (v4 : Int32) (v5 : Int32) (v6 : Int32) (v7 : Int32) (M : MS) => f_X4_fall_223 K93 k v2 v3 v4 v5 v6 v7 M) ih v2 v3 v4 v5 v6 v7 v7 M  _ _ _ hq (by show M.2.2 = M0.2.2; omega) hP hD hS (lv_sub hl [0, 1, 2, 3, 4, 5, 6] rfl)
          · skip
            rw [if_pos c42] at hq
            refine lv_aload_n hx hb dX4_fall_253 rfl (lv_at hl 0 rfl) ?_
            refine va_get (D := D) (ci := 4) (v := .ref (ad 19)) (C := RX4) (T := TX4) (N := 39) hx hb hts kin_X4_fall_X4 hown hK hP 0 rfl rfl 19 (by decide) (hts _ kw_X4_fall__fieldLink_RX4_62_ActHouseModel_by_I_) (fun _ h9 => h9) rfl dX4_fall_254 ?_
            refine lv_iload hx hb dX4_fall_257 (lv_at hl 6 rfl) ?_
            refine va_iald hx hb hK hP 18 0 (f := (M.2.1 19)) rfl rfl (k_in b41.1 b41.2) dX4_fall_259 ?_
            refine lv_iload hx hb dX4_fall_260 (lv_at hl 4 rfl) ?_
            refine lv_icmp_ne (tgt := 269) hx hb dX4_fall_262 (by decide) (fun c45 => ?_) (fun c45 => ?_)
            · skip
              rw [if_neg c45] at hq
              refine lv_iconst (v := 0) hx hb dX4_fall_269 (by decide) ?_
              exact B270 K93 hK93 (fun (v2 : Int32) (v3 : Int32) (v4 : Int32) (v5 : Int32) (v6 : Int32) (v7 : Int32) (M : MS) => f_X4_fall_223 K93 k v2 v3 v4 v5 v6 v7 M) ih v2 v3 v4 v5 v6 v7 (0 : Int32) v7 M  _ _ _ hq (by show M.2.2 = M0.2.2; omega) hP hD hS (lv_sub hl [0, 1, 2, 3, 4, 5, 6] rfl)
            · skip
              rw [if_pos c45] at hq
              exact B265 K93 hK93 (fun (v2 : Int32) (v3 : Int32) (v4 : Int32) (v5 : Int32) (v6 : Int32) (v7 : Int32) (M : MS) => f_X4_fall_223 K93 k v2 v3 v4 v5 v6 v7 M) ih v2 v3 v4 v5 v6 v7 v7 M  _ _ _ hq (by show M.2.2 = M0.2.2; omega) hP hD hS (lv_sub hl [0, 1, 2, 3, 4, 5, 6] rfl)
  have B196 : ∀ (K93 : Int32 → Int32 → Int32 → MS → Option (Int32 × MS)) (hK93 : ∀ (v2 : Int32) (v3 : Int32) (v4 : Int32)  (M : MS)  (H : Heap) (locs : List Loc) (ls : Array Slot), K93 v2 v3 v4 M = some (r', M') → M.2.2 = M0.2.2 → va_P D vwCl (mW cI cZ h ad M) H → va_D A (mW cI cZ h ad M) → va_S A s.heap H locs → lv_has ls 8 [(0, .ref h), (2, .int v2), (3, .int v3), (4, .int v4)] → W p l e (headSpec wsX4_fall ({ frames := 1, cells := 0, slots := 0, locals := 22 })).room s m ([.ref h, .int x1] : List Value).toArray below meth c H locs (0) (0) Q (F0 m 93 ls [])), ∀ (v2 : Int32) (v3 : Int32) (v4 : Int32) (v5 : Int32) (s0 : Int32)  (M : MS)  (H : Heap) (locs : List Loc) (ls : Array Slot), f_X4_fall_196 K93 v2 v3 v4 v5 s0 M = some (r', M') → M.2.2 = M0.2.2 → va_P D vwCl (mW cI cZ h ad M) H → va_D A (mW cI cZ h ad M) → va_S A s.heap H locs → lv_has ls 8 [(0, .ref h), (2, .int v2), (3, .int v3), (4, .int v4), (5, .int v5)] → W p l e (headSpec wsX4_fall ({ frames := 1, cells := 0, slots := 0, locals := 22 })).room s m ([.ref h, .int x1] : List Value).toArray below meth c H locs (0) (0) Q (F0 m 196 ls [.int s0]) := by
    intro K93 hK93
    intro v2 v3 v4 v5 s0  M  H locs ls hq hg hP hD hS hl
    rw [f_X4_fall_196] at hq
    refine lv_istore (lv' := [(6, .int s0), (0, .ref h), (2, .int v2), (3, .int v3), (4, .int v4), (5, .int v5)]) hx hb dX4_fall_196 hl (by decide) rfl (fun ls hl => ?_)
    refine lv_aload_n hx hb dX4_fall_198 rfl (lv_at hl 1 rfl) ?_
    refine lv_iload hx hb dX4_fall_199 (lv_at hl 5 rfl) ?_
    obtain ⟨r35, M35, h35, hq⟩ := k_bd hq
    have hFc := k_free hD hS hA
    refine va_callv (va_runV (As := [.int v5]) (rest := []) ⟨hx, hb, hml, hown, hts⟩ (c_X4_clears (l := l) (D := D) (cI := cI) (cZ := cZ) (h := h) (ad := ad)  (hf := h35)) (cwV 1 hts gX4_fall_X4_clears rfl rfl rfl (by decide +kernel) ⟨Nat.le_of_ble_eq_true rfl, Nat.le_of_ble_eq_true rfl⟩) ⟨k_blind, va_recv hK hP (ci := 4) (q0 := 0) rfl rfl, fun U hU hW => ⟨rfl, k_pre hU hW hP hK hD⟩⟩ rfl rfl hl.1 rfl (lv_room (Nat.le_of_ble_eq_true rfl)) dX4_fall_201 ⟨by decide, by decide⟩) hS (fun q _ h => hFc q h) hFc (fun u t H1 locs ht hvm hw hB hz1 hk1 hS => ?_)
    obtain ⟨rfl, hg35⟩ := hw
    have hg35 : M35.2.2 = M.2.2 := hg35
    refine W.widen (k := 0) (n := 0) (Nat.le_refl _) (Nat.le_refl _) ?_
    obtain ⟨hP1, hK1, hD1⟩ := hB
    rw [ht] at hP1
    have hP := hP1
    have hD := k_weak hD1 hFc
    generalize H1 = H at hP hS ⊢
    have hP : va_P D vwCl (mW cI cZ h ad M35) _ := hP
    have hD : va_D A (mW cI cZ h ad M35) := hD
    refine lv_aload_n hx hb dX4_fall_204 rfl (lv_at hl 1 rfl) ?_
    refine va_get (D := D) (ci := 4) (v := .ref (ad 11)) (C := RX4) (T := TX4) (N := 39) hx hb hts kin_X4_fall_X4 hown hK hP 0 rfl rfl 11 (by decide) (hts _ kw_X4_fall__fieldLink_RX4_37_ActHouseModel_state_I_) (fun _ h9 => h9) rfl dX4_fall_205 ?_
    refine lv_iload hx hb dX4_fall_208 (lv_at hl 5 rfl) ?_
    refine lv_iconst (v := 0) hx hb dX4_fall_210 (by decide) ?_
    obtain ⟨b36, hq⟩ := k_if hq
    refine va_iast hx hb hK hP hD hS 10 0 (f := (M35.2.1 11)) rfl rfl (x := 0) (k_in b36.1 b36.2) dX4_fall_211 (fun H locs hP hD hS => ?_)
    obtain ⟨M37, eM37, hg37, hq⟩ := k_lA hq
    rw [mW_A11, ← eM37] at hP hD
    have hP : va_P D vwCl (mW cI cZ h ad M37) _ := hP
    have hD : va_D A (mW cI cZ h ad M37) := hD
    refine lv_aload_n hx hb dX4_fall_212 rfl (lv_at hl 1 rfl) ?_
    refine va_get (D := D) (ci := 4) (v := .ref (ad 17)) (C := RX4) (T := TX4) (N := 39) hx hb hts kin_X4_fall_X4 hown hK hP 0 rfl rfl 17 (by decide) (hts _ kw_X4_fall__fieldLink_RX4_56_ActHouseModel_doneIn_I_) (fun _ h9 => h9) rfl dX4_fall_213 ?_
    refine lv_iload hx hb dX4_fall_216 (lv_at hl 5 rfl) ?_
    refine lv_iconst (v := (-1)) hx hb dX4_fall_218 (by decide) ?_
    refine va_iast hx hb hK hP hD hS 16 0 (f := (M37.2.1 17)) rfl rfl (x := (-1)) (k_in b36.1 b36.2) dX4_fall_219 (fun H locs hP hD hS => ?_)
    obtain ⟨M38, eM38, hg38, hq⟩ := k_lA hq
    rw [mW_A17, ← eM38] at hP hD
    have hP : va_P D vwCl (mW cI cZ h ad M38) _ := hP
    have hD : va_D A (mW cI cZ h ad M38) := hD
    refine lv_iconst (v := 0) hx hb dX4_fall_220 (by decide) ?_
    refine lv_istore (lv' := [(7, .int 0), (6, .int s0), (0, .ref h), (2, .int v2), (3, .int v3), (4, .int v4), (5, .int v5)]) hx hb dX4_fall_221 hl (by decide) rfl (fun ls hl => ?_)
    exact B223 K93 hK93 3000000 v2 v3 v4 v5 s0 (0 : Int32) M38  _ _ _ hq (by show M38.2.2 = M0.2.2; omega) hP hD hS (lv_sub hl [2, 3, 4, 5, 6, 1, 0] rfl)
  have B178 : ∀ (K93 : Int32 → Int32 → Int32 → MS → Option (Int32 × MS)) (hK93 : ∀ (v2 : Int32) (v3 : Int32) (v4 : Int32)  (M : MS)  (H : Heap) (locs : List Loc) (ls : Array Slot), K93 v2 v3 v4 M = some (r', M') → M.2.2 = M0.2.2 → va_P D vwCl (mW cI cZ h ad M) H → va_D A (mW cI cZ h ad M) → va_S A s.heap H locs → lv_has ls 8 [(0, .ref h), (2, .int v2), (3, .int v3), (4, .int v4)] → W p l e (headSpec wsX4_fall ({ frames := 1, cells := 0, slots := 0, locals := 22 })).room s m ([.ref h, .int x1] : List Value).toArray below meth c H locs (0) (0) Q (F0 m 93 ls [])), ∀ (v2 : Int32) (v3 : Int32) (v4 : Int32) (v5 : Int32)  (M : MS)  (H : Heap) (locs : List Loc) (ls : Array Slot), f_X4_fall_178 K93 v2 v3 v4 v5 M = some (r', M') → M.2.2 = M0.2.2 → va_P D vwCl (mW cI cZ h ad M) H → va_D A (mW cI cZ h ad M) → va_S A s.heap H locs → lv_has ls 8 [(0, .ref h), (2, .int v2), (3, .int v3), (4, .int v4), (5, .int v5)] → W p l e (headSpec wsX4_fall ({ frames := 1, cells := 0, slots := 0, locals := 22 })).room s m ([.ref h, .int x1] : List Value).toArray below meth c H locs (0) (0) Q (F0 m 178 ls []) := by
    intro K93 hK93
    intro v2 v3 v4 v5  M  H locs ls hq hg hP hD hS hl
    rw [f_X4_fall_178] at hq
    refine lv_aload_n hx hb dX4_fall_178 rfl (lv_at hl 0 rfl) ?_
    refine va_get (D := D) (ci := 4) (v := .ref (ad 33)) (C := RX4) (T := TX4) (N := 39) hx hb hts kin_X4_fall_X4 hown hK hP 0 rfl rfl 33 (by decide) (hts _ kw_X4_fall__fieldLink_RX4_95_ActHouseModel_log_I_) (fun _ h9 => h9) rfl dX4_fall_179 ?_
    refine lv_iconst (v := 4) hx hb dX4_fall_182 (by decide) ?_
    refine lv_iload hx hb dX4_fall_183 (lv_at hl 3 rfl) ?_
    refine lv_imul hx hb dX4_fall_185 ?_
    obtain ⟨b33, hq⟩ := k_if hq
    refine va_iald hx hb hK hP 29 0 (f := (M.2.1 33)) rfl rfl (k_in b33.1 b33.2) dX4_fall_186 ?_
    refine lv_iconst (v := 2) hx hb dX4_fall_187 (by decide) ?_
    refine lv_icmp_ne (tgt := 195) hx hb dX4_fall_188 (by decide) (fun c34 => ?_) (fun c34 => ?_)
    · skip
      rw [if_neg c34] at hq
      refine lv_iconst (v := 0) hx hb dX4_fall_195 (by decide) ?_
      exact B196 K93 hK93 v2 v3 v4 v5 (0 : Int32) M  _ _ _ hq (by show M.2.2 = M0.2.2; omega) hP hD hS (lv_sub hl [0, 1, 2, 3, 4] rfl)
    · skip
      rw [if_pos c34] at hq
      refine lv_iconst (v := 1) hx hb dX4_fall_191 (by decide) ?_
      refine lv_goto (tgt := 196) hx hb dX4_fall_192 (by decide) ?_
      exact B196 K93 hK93 v2 v3 v4 v5 (1 : Int32) M  _ _ _ hq (by show M.2.2 = M0.2.2; omega) hP hD hS (lv_sub hl [0, 1, 2, 3, 4] rfl)
  have B149 : ∀ (K93 : Int32 → Int32 → Int32 → MS → Option (Int32 × MS)) (hK93 : ∀ (v2 : Int32) (v3 : Int32) (v4 : Int32)  (M : MS)  (H : Heap) (locs : List Loc) (ls : Array Slot), K93 v2 v3 v4 M = some (r', M') → M.2.2 = M0.2.2 → va_P D vwCl (mW cI cZ h ad M) H → va_D A (mW cI cZ h ad M) → va_S A s.heap H locs → lv_has ls 8 [(0, .ref h), (2, .int v2), (3, .int v3), (4, .int v4)] → W p l e (headSpec wsX4_fall ({ frames := 1, cells := 0, slots := 0, locals := 22 })).room s m ([.ref h, .int x1] : List Value).toArray below meth c H locs (0) (0) Q (F0 m 93 ls [])), ∀ (v2 : Int32) (v3 : Int32) (v4 : Int32) (v5 : Int32)  (M : MS)  (H : Heap) (locs : List Loc) (ls : Array Slot), f_X4_fall_149 K93 v2 v3 v4 v5 M = some (r', M') → M.2.2 = M0.2.2 → va_P D vwCl (mW cI cZ h ad M) H → va_D A (mW cI cZ h ad M) → va_S A s.heap H locs → lv_has ls 8 [(0, .ref h), (2, .int v2), (3, .int v3), (4, .int v4), (5, .int v5)] → W p l e (headSpec wsX4_fall ({ frames := 1, cells := 0, slots := 0, locals := 22 })).room s m ([.ref h, .int x1] : List Value).toArray below meth c H locs (0) (0) Q (F0 m 149 ls []) := by
    intro K93 hK93
    intro v2 v3 v4 v5  M  H locs ls hq hg hP hD hS hl
    rw [f_X4_fall_149] at hq
    refine lv_aload_n hx hb dX4_fall_149 rfl (lv_at hl 0 rfl) ?_
    refine va_get (D := D) (ci := 4) (v := .ref (ad 33)) (C := RX4) (T := TX4) (N := 39) hx hb hts kin_X4_fall_X4 hown hK hP 0 rfl rfl 33 (by decide) (hts _ kw_X4_fall__fieldLink_RX4_95_ActHouseModel_log_I_) (fun _ h9 => h9) rfl dX4_fall_150 ?_
    refine lv_iconst (v := 4) hx hb dX4_fall_153 (by decide) ?_
    refine lv_iload hx hb dX4_fall_154 (lv_at hl 3 rfl) ?_
    refine lv_imul hx hb dX4_fall_156 ?_
    obtain ⟨b31, hq⟩ := k_if hq
    refine va_iald hx hb hK hP 29 0 (f := (M.2.1 33)) rfl rfl (k_in b31.1 b31.2) dX4_fall_157 ?_
    refine lv_iconst (v := 2) hx hb dX4_fall_158 (by decide) ?_
    refine lv_icmp_eq (tgt := 178) hx hb dX4_fall_159 (by decide) (fun c32 => ?_) (fun c32 => ?_)
    · skip
      rw [if_pos c32] at hq
      exact B178 K93 hK93 v2 v3 v4 v5 M  _ _ _ hq (by show M.2.2 = M0.2.2; omega) hP hD hS (lv_sub hl [0, 1, 2, 3, 4] rfl)
    · skip
      rw [if_neg c32] at hq
      refine lv_aload_n hx hb dX4_fall_162 rfl (lv_at hl 0 rfl) ?_
      refine va_get (D := D) (ci := 4) (v := .ref (ad 33)) (C := RX4) (T := TX4) (N := 39) hx hb hts kin_X4_fall_X4 hown hK hP 0 rfl rfl 33 (by decide) (hts _ kw_X4_fall__fieldLink_RX4_95_ActHouseModel_log_I_) (fun _ h9 => h9) rfl dX4_fall_163 ?_
      refine lv_iconst (v := 4) hx hb dX4_fall_166 (by decide) ?_
      refine lv_iload hx hb dX4_fall_167 (lv_at hl 3 rfl) ?_
      refine lv_imul hx hb dX4_fall_169 ?_
      refine va_iald hx hb hK hP 29 0 (f := (M.2.1 33)) rfl rfl (k_in b31.1 b31.2) dX4_fall_170 ?_
      refine lv_iconst (v := 3) hx hb dX4_fall_171 (by decide) ?_
      refine lv_icmp_eq (tgt := 178) hx hb dX4_fall_172 (by decide) (fun c46 => ?_) (fun c46 => ?_)
      · skip
        rw [if_pos c46] at hq
        exact B178 K93 hK93 v2 v3 v4 v5 M  _ _ _ hq (by show M.2.2 = M0.2.2; omega) hP hD hS (lv_sub hl [0, 1, 2, 3, 4] rfl)
      · skip
        rw [if_neg c46] at hq
        refine lv_goto (tgt := 277) hx hb dX4_fall_175 (by decide) ?_
        exact B277 K93 hK93 v2 v3 v4 M  _ _ _ hq (by show M.2.2 = M0.2.2; omega) hP hD hS (lv_sub hl [0, 1, 2, 3] rfl)
  have B93 : ∀  (k : Nat), ∀ (v2 : Int32) (v3 : Int32) (v4 : Int32)  (M : MS)  (H : Heap) (locs : List Loc) (ls : Array Slot), f_X4_fall_93  k v2 v3 v4 M = some (r', M') → M.2.2 = M0.2.2 → va_P D vwCl (mW cI cZ h ad M) H → va_D A (mW cI cZ h ad M) → va_S A s.heap H locs → lv_has ls 8 [(0, .ref h), (2, .int v2), (3, .int v3), (4, .int v4)] → W p l e (headSpec wsX4_fall ({ frames := 1, cells := 0, slots := 0, locals := 22 })).room s m ([.ref h, .int x1] : List Value).toArray below meth c H locs (0) (0) Q (F0 m 93 ls []) := by
    intro  k
    induction k with
    | zero =>
      intro v2 v3 v4  M  H locs ls hq hg hP hD hS hl
      exact absurd hq (by rw [f_X4_fall_93]; exact k_non)
    | succ k ih =>
      intro v2 v3 v4  M  H locs ls hq hg hP hD hS hl
      rw [f_X4_fall_93] at hq
      refine lv_iload hx hb dX4_fall_93 (lv_at hl 3 rfl) ?_
      refine lv_aload_n hx hb dX4_fall_95 rfl (lv_at hl 0 rfl) ?_
      refine va_get (D := D) (ci := 4) (v := .int (M.1 31)) (C := RX4) (T := TX4) (N := 39) hx hb hts kin_X4_fall_X4 hown hK hP 0 rfl rfl 31 (by decide) (hts _ kw_X4_fall__fieldLink_RX4_127_ActHouseModel_entries_I_) (fun _ h9 => h9) rfl dX4_fall_96 ?_
      refine lv_icmp_ge (tgt := 283) hx hb dX4_fall_99 (by decide) (fun c4 => ?_) (fun c4 => ?_)
      · skip
        rw [if_pos c4] at hq
        refine lv_aload_n hx hb dX4_fall_283 rfl (lv_at hl 0 rfl) ?_
        refine lv_iload_n hx hb dX4_fall_284 rfl (lv_at hl 1 rfl) ?_
        refine va_put (D := D) (ci := 4) (v := .int v2) (ty := .int) (C := RX4) (T := TX4) (N := 39) hx hb hts kin_X4_fall_X4 tyX4 tyX4_ok nmX4 hown hK hP hD hS 0 (fs := mF ad M) rfl rfl 31 (by decide) (hts _ kw_X4_fall__fieldLink_RX4_127_ActHouseModel_entries_I_) (fun _ h9 => h9) rfl (by decide +kernel) rfl rfl (Nat.le_of_ble_eq_true rfl) dX4_fall_285 (fun H locs hP hD hS => ?_)
        obtain ⟨M5, eM5, hg5, hq⟩ := k_lI hq
        rw [mW_I31, ← eM5] at hP hD
        have hP : va_P D vwCl (mW cI cZ h ad M5) _ := hP
        have hD : va_D A (mW cI cZ h ad M5) := hD
        refine lv_iconst (v := 0) hx hb dX4_fall_288 (by decide) ?_
        refine lv_istore (lv' := [(4, .int 0), (0, .ref h), (2, .int v2), (3, .int v3)]) hx hb dX4_fall_289 hl (by decide) rfl (fun ls hl => ?_)
        exact B291  3000000 v3 (0 : Int32) M5  _ _ _ hq (by show M5.2.2 = M0.2.2; omega) hP hD hS (lv_sub hl [1, 3, 0] rfl)
      · skip
        rw [if_neg c4] at hq
        refine lv_aload_n hx hb dX4_fall_102 rfl (lv_at hl 0 rfl) ?_
        refine va_get (D := D) (ci := 4) (v := .ref (ad 33)) (C := RX4) (T := TX4) (N := 39) hx hb hts kin_X4_fall_X4 hown hK hP 0 rfl rfl 33 (by decide) (hts _ kw_X4_fall__fieldLink_RX4_95_ActHouseModel_log_I_) (fun _ h9 => h9) rfl dX4_fall_103 ?_
        refine lv_iconst (v := 4) hx hb dX4_fall_106 (by decide) ?_
        refine lv_iload hx hb dX4_fall_107 (lv_at hl 3 rfl) ?_
        refine lv_imul hx hb dX4_fall_109 ?_
        refine lv_iconst (v := 1) hx hb dX4_fall_110 (by decide) ?_
        refine lv_iadd hx hb dX4_fall_111 ?_
        obtain ⟨b28, hq⟩ := k_if hq
        refine va_iald hx hb hK hP 29 0 (f := (M.2.1 33)) rfl rfl (k_in b28.1 b28.2) dX4_fall_112 ?_
        refine lv_istore (lv' := [(5, .int ((M.2.1 33) ((4 * v4) + 1).toNatClampNeg)), (0, .ref h), (2, .int v2), (3, .int v3), (4, .int v4)]) hx hb dX4_fall_113 hl (by decide) rfl (fun ls hl => ?_)
        refine lv_aload_n hx hb dX4_fall_115 rfl (lv_at hl 1 rfl) ?_
        refine va_get (D := D) (ci := 4) (v := .ref (ad 33)) (C := RX4) (T := TX4) (N := 39) hx hb hts kin_X4_fall_X4 hown hK hP 0 rfl rfl 33 (by decide) (hts _ kw_X4_fall__fieldLink_RX4_95_ActHouseModel_log_I_) (fun _ h9 => h9) rfl dX4_fall_116 ?_
        refine lv_iconst (v := 4) hx hb dX4_fall_119 (by decide) ?_
        refine lv_iload hx hb dX4_fall_120 (lv_at hl 4 rfl) ?_
        refine lv_imul hx hb dX4_fall_122 ?_
        obtain ⟨b29, hq⟩ := k_if hq
        refine va_iald hx hb hK hP 29 0 (f := (M.2.1 33)) rfl rfl (k_in b29.1 b29.2) dX4_fall_123 ?_
        refine lv_iconst (v := 2) hx hb dX4_fall_124 (by decide) ?_
        refine lv_icmp_ne (tgt := 149) hx hb dX4_fall_125 (by decide) (fun c30 => ?_) (fun c30 => ?_)
        · skip
          rw [if_neg c30] at hq
          exact B149 (fun (v2 : Int32) (v3 : Int32) (v4 : Int32) (M : MS) => f_X4_fall_93  k v2 v3 v4 M) ih v2 v3 v4 ((M.2.1 33) ((4 * v4) + 1).toNatClampNeg) M  _ _ _ hq (by show M.2.2 = M0.2.2; omega) hP hD hS (lv_sub hl [1, 2, 3, 4, 0] rfl)
        · skip
          rw [if_pos c30] at hq
          refine lv_iinc (v := v3 + 1) (lv' := [(3, .int (v3 + 1)), (5, .int ((M.2.1 33) ((4 * v4) + 1).toNatClampNeg)), (0, .ref h), (2, .int v2), (4, .int v4)]) hx hb dX4_fall_128 hl (k := 3) rfl (by rfl) (by decide) rfl (fun ls hl => ?_)
          refine lv_aload_n hx hb dX4_fall_131 rfl (lv_at hl 2 rfl) ?_
          refine lv_dup hx hb dX4_fall_132 rfl ?_
          refine va_get (D := D) (ci := 4) (v := .int (M.1 29)) (C := RX4) (T := TX4) (N := 39) hx hb hts kin_X4_fall_X4 hown hK hP 0 rfl rfl 29 (by decide) (hts _ kw_X4_fall__fieldLink_RX4_168_ActHouseModel_dones_I_) (fun _ h9 => h9) rfl dX4_fall_133 ?_
          refine lv_iconst (v := 1) hx hb dX4_fall_136 (by decide) ?_
          refine lv_isub hx hb dX4_fall_137 ?_
          refine va_put (D := D) (ci := 4) (v := .int ((M.1 29) - 1)) (ty := .int) (C := RX4) (T := TX4) (N := 39) hx hb hts kin_X4_fall_X4 tyX4 tyX4_ok nmX4 hown hK hP hD hS 0 (fs := mF ad M) rfl rfl 29 (by decide) (hts _ kw_X4_fall__fieldLink_RX4_168_ActHouseModel_dones_I_) (fun _ h9 => h9) rfl (by decide +kernel) rfl rfl (Nat.le_of_ble_eq_true rfl) dX4_fall_138 (fun H locs hP hD hS => ?_)
          obtain ⟨M47, eM47, hg47, hq⟩ := k_lI hq
          rw [mW_I29, ← eM47] at hP hD
          have hP : va_P D vwCl (mW cI cZ h ad M47) _ := hP
          have hD : va_D A (mW cI cZ h ad M47) := hD
          refine lv_aload_n hx hb dX4_fall_141 rfl (lv_at hl 2 rfl) ?_
          refine va_get (D := D) (ci := 4) (v := .ref (ad 22)) (C := RX4) (T := TX4) (N := 39) hx hb hts kin_X4_fall_X4 hown hK hP 0 rfl rfl 22 (by decide) (hts _ kw_X4_fall__fieldLink_RX4_71_ActHouseModel_isAgain_Z_) (fun _ h9 => h9) rfl dX4_fall_142 ?_
          refine lv_iload hx hb dX4_fall_145 (lv_at hl 1 rfl) ?_
          refine lv_iconst (v := 1) hx hb dX4_fall_147 (by decide) ?_
          obtain ⟨b48, hq⟩ := k_if hq
          refine va_zast hx hb hK hP hD hS 21 1 (f := (M47.2.1 22)) rfl rfl (x := 1) (k_in b48.1 b48.2) dX4_fall_148 (fun H locs hP hD hS => ?_)
          obtain ⟨M49, eM49, hg49, hq⟩ := k_lA hq
          rw [mW_A22, k_nb1, ← eM49] at hP hD
          have hP : va_P D vwCl (mW cI cZ h ad M49) _ := hP
          have hD : va_D A (mW cI cZ h ad M49) := hD
          exact B149 (fun (v2 : Int32) (v3 : Int32) (v4 : Int32) (M : MS) => f_X4_fall_93  k v2 v3 v4 M) ih v2 (v3 + 1) v4 ((M.2.1 33) ((4 * v4) + 1).toNatClampNeg) M49  _ _ _ hq (by show M49.2.2 = M0.2.2; omega) hP hD hS (lv_sub hl [2, 3, 0, 4, 1] rfl)
  have B84 : ∀ (K31 : Int32 → Int32 → Int32 → MS → Option (Int32 × MS)) (hK31 : ∀ (v2 : Int32) (v3 : Int32) (v4 : Int32)  (M : MS)  (H : Heap) (locs : List Loc) (ls : Array Slot), K31 v2 v3 v4 M = some (r', M') → M.2.2 = M0.2.2 → va_P D vwCl (mW cI cZ h ad M) H → va_D A (mW cI cZ h ad M) → va_S A s.heap H locs → lv_has ls 8 [(0, .ref h), (2, .int v2), (3, .int v3), (4, .int v4)] → W p l e (headSpec wsX4_fall ({ frames := 1, cells := 0, slots := 0, locals := 22 })).room s m ([.ref h, .int x1] : List Value).toArray below meth c H locs (0) (0) Q (F0 m 31 ls [])), ∀ (v2 : Int32) (v3 : Int32) (v4 : Int32)  (M : MS)  (H : Heap) (locs : List Loc) (ls : Array Slot), f_X4_fall_84 K31 v2 v3 v4 M = some (r', M') → M.2.2 = M0.2.2 → va_P D vwCl (mW cI cZ h ad M) H → va_D A (mW cI cZ h ad M) → va_S A s.heap H locs → lv_has ls 8 [(0, .ref h), (2, .int v2), (3, .int v3), (4, .int v4)] → W p l e (headSpec wsX4_fall ({ frames := 1, cells := 0, slots := 0, locals := 22 })).room s m ([.ref h, .int x1] : List Value).toArray below meth c H locs (0) (0) Q (F0 m 84 ls []) := by
    intro K31 hK31
    intro v2 v3 v4  M  H locs ls hq hg hP hD hS hl
    rw [f_X4_fall_84] at hq
    refine lv_iinc (v := v4 + 1) (lv' := [(4, .int (v4 + 1)), (0, .ref h), (2, .int v2), (3, .int v3)]) hx hb dX4_fall_84 hl (k := 3) rfl (by rfl) (by decide) rfl (fun ls hl => ?_)
    refine lv_goto (tgt := 31) hx hb dX4_fall_87 (by decide) ?_
    exact hK31 v2 v3 (v4 + 1) M  _ _ _ hq (by show M.2.2 = M0.2.2; omega) hP hD hS (lv_sub hl [1, 2, 3, 0] rfl)
  have B31 : ∀  (k : Nat), ∀ (v2 : Int32) (v3 : Int32) (v4 : Int32)  (M : MS)  (H : Heap) (locs : List Loc) (ls : Array Slot), f_X4_fall_31  k v2 v3 v4 M = some (r', M') → M.2.2 = M0.2.2 → va_P D vwCl (mW cI cZ h ad M) H → va_D A (mW cI cZ h ad M) → va_S A s.heap H locs → lv_has ls 8 [(0, .ref h), (2, .int v2), (3, .int v3), (4, .int v4)] → W p l e (headSpec wsX4_fall ({ frames := 1, cells := 0, slots := 0, locals := 22 })).room s m ([.ref h, .int x1] : List Value).toArray below meth c H locs (0) (0) Q (F0 m 31 ls []) := by
    intro  k
    induction k with
    | zero =>
      intro v2 v3 v4  M  H locs ls hq hg hP hD hS hl
      exact absurd hq (by rw [f_X4_fall_31]; exact k_non)
    | succ k ih =>
      intro v2 v3 v4  M  H locs ls hq hg hP hD hS hl
      rw [f_X4_fall_31] at hq
      refine lv_iload hx hb dX4_fall_31 (lv_at hl 3 rfl) ?_
      refine lv_aload_n hx hb dX4_fall_33 rfl (lv_at hl 0 rfl) ?_
      refine va_get (D := D) (ci := 4) (v := .int (M.1 7)) (C := RX4) (T := TX4) (N := 39) hx hb hts kin_X4_fall_X4 hown hK hP 0 rfl rfl 7 (by decide) (hts _ kw_X4_fall__fieldLink_RX4_111_ActHouseModel_acts_I_) (fun _ h9 => h9) rfl dX4_fall_34 ?_
      refine lv_icmp_ge (tgt := 90) hx hb dX4_fall_37 (by decide) (fun c3 => ?_) (fun c3 => ?_)
      · skip
        rw [if_pos c3] at hq
        refine lv_iload_n hx hb dX4_fall_90 rfl (lv_at hl 1 rfl) ?_
        refine lv_istore (lv' := [(4, .int v2), (0, .ref h), (2, .int v2), (3, .int v3)]) hx hb dX4_fall_91 hl (by decide) rfl (fun ls hl => ?_)
        exact B93  3000000 v2 v3 v2 M  _ _ _ hq (by show M.2.2 = M0.2.2; omega) hP hD hS (lv_sub hl [1, 2, 3, 0] rfl)
      · skip
        rw [if_neg c3] at hq
        refine lv_aload_n hx hb dX4_fall_40 rfl (lv_at hl 0 rfl) ?_
        refine va_get (D := D) (ci := 4) (v := .ref (ad 22)) (C := RX4) (T := TX4) (N := 39) hx hb hts kin_X4_fall_X4 hown hK hP 0 rfl rfl 22 (by decide) (hts _ kw_X4_fall__fieldLink_RX4_71_ActHouseModel_isAgain_Z_) (fun _ h9 => h9) rfl dX4_fall_41 ?_
        refine lv_iload hx hb dX4_fall_44 (lv_at hl 3 rfl) ?_
        refine lv_iconst (v := 0) hx hb dX4_fall_46 (by decide) ?_
        obtain ⟨b50, hq⟩ := k_if hq
        refine va_zast hx hb hK hP hD hS 21 1 (f := (M.2.1 22)) rfl rfl (x := 0) (k_in b50.1 b50.2) dX4_fall_47 (fun H locs hP hD hS => ?_)
        obtain ⟨M51, eM51, hg51, hq⟩ := k_lA hq
        rw [mW_A22, k_nb0, ← eM51] at hP hD
        have hP : va_P D vwCl (mW cI cZ h ad M51) _ := hP
        have hD : va_D A (mW cI cZ h ad M51) := hD
        refine lv_aload_n hx hb dX4_fall_48 rfl (lv_at hl 0 rfl) ?_
        refine va_get (D := D) (ci := 4) (v := .ref (ad 11)) (C := RX4) (T := TX4) (N := 39) hx hb hts kin_X4_fall_X4 hown hK hP 0 rfl rfl 11 (by decide) (hts _ kw_X4_fall__fieldLink_RX4_37_ActHouseModel_state_I_) (fun _ h9 => h9) rfl dX4_fall_49 ?_
        refine lv_iload hx hb dX4_fall_52 (lv_at hl 3 rfl) ?_
        refine va_iald hx hb hK hP 10 0 (f := (M51.2.1 11)) rfl rfl (k_in b50.1 b50.2) dX4_fall_54 ?_
        refine lv_iconst (v := 1) hx hb dX4_fall_55 (by decide) ?_
        refine lv_icmp_eq (tgt := 62) hx hb dX4_fall_56 (by decide) (fun c52 => ?_) (fun c52 => ?_)
        · skip
          rw [if_pos c52] at hq
          refine lv_aload_n hx hb dX4_fall_62 rfl (lv_at hl 0 rfl) ?_
          refine lv_iload hx hb dX4_fall_63 (lv_at hl 3 rfl) ?_
          obtain ⟨r53, M53, h53, hq⟩ := k_bd hq
          have hFc := k_free hD hS hA
          refine va_callv (va_runV (As := [.int v4]) (rest := []) ⟨hx, hb, hml, hown, hts⟩ (c_X4_clears (l := l) (D := D) (cI := cI) (cZ := cZ) (h := h) (ad := ad)  (hf := h53)) (cwV 1 hts gX4_fall_X4_clears rfl rfl rfl (by decide +kernel) ⟨Nat.le_of_ble_eq_true rfl, Nat.le_of_ble_eq_true rfl⟩) ⟨k_blind, va_recv hK hP (ci := 4) (q0 := 0) rfl rfl, fun U hU hW => ⟨rfl, k_pre hU hW hP hK hD⟩⟩ rfl rfl hl.1 rfl (lv_room (Nat.le_of_ble_eq_true rfl)) dX4_fall_65 ⟨by decide, by decide⟩) hS (fun q _ h => hFc q h) hFc (fun u t H1 locs ht hvm hw hB hz1 hk1 hS => ?_)
          obtain ⟨rfl, hg53⟩ := hw
          have hg53 : M53.2.2 = M51.2.2 := hg53
          refine W.widen (k := 0) (n := 0) (Nat.le_refl _) (Nat.le_refl _) ?_
          obtain ⟨hP1, hK1, hD1⟩ := hB
          rw [ht] at hP1
          have hP := hP1
          have hD := k_weak hD1 hFc
          generalize H1 = H at hP hS ⊢
          have hP : va_P D vwCl (mW cI cZ h ad M53) _ := hP
          have hD : va_D A (mW cI cZ h ad M53) := hD
          refine lv_aload_n hx hb dX4_fall_68 rfl (lv_at hl 0 rfl) ?_
          refine va_get (D := D) (ci := 4) (v := .ref (ad 11)) (C := RX4) (T := TX4) (N := 39) hx hb hts kin_X4_fall_X4 hown hK hP 0 rfl rfl 11 (by decide) (hts _ kw_X4_fall__fieldLink_RX4_37_ActHouseModel_state_I_) (fun _ h9 => h9) rfl dX4_fall_69 ?_
          refine lv_iload hx hb dX4_fall_72 (lv_at hl 3 rfl) ?_
          refine lv_iconst (v := 0) hx hb dX4_fall_74 (by decide) ?_
          refine va_iast hx hb hK hP hD hS 10 0 (f := (M53.2.1 11)) rfl rfl (x := 0) (k_in b50.1 b50.2) dX4_fall_75 (fun H locs hP hD hS => ?_)
          obtain ⟨M54, eM54, hg54, hq⟩ := k_lA hq
          rw [mW_A11, ← eM54] at hP hD
          have hP : va_P D vwCl (mW cI cZ h ad M54) _ := hP
          have hD : va_D A (mW cI cZ h ad M54) := hD
          refine lv_aload_n hx hb dX4_fall_76 rfl (lv_at hl 0 rfl) ?_
          refine va_get (D := D) (ci := 4) (v := .ref (ad 22)) (C := RX4) (T := TX4) (N := 39) hx hb hts kin_X4_fall_X4 hown hK hP 0 rfl rfl 22 (by decide) (hts _ kw_X4_fall__fieldLink_RX4_71_ActHouseModel_isAgain_Z_) (fun _ h9 => h9) rfl dX4_fall_77 ?_
          refine lv_iload hx hb dX4_fall_80 (lv_at hl 3 rfl) ?_
          refine lv_iconst (v := 1) hx hb dX4_fall_82 (by decide) ?_
          refine va_zast hx hb hK hP hD hS 21 1 (f := (M54.2.1 22)) rfl rfl (x := 1) (k_in b50.1 b50.2) dX4_fall_83 (fun H locs hP hD hS => ?_)
          obtain ⟨M55, eM55, hg55, hq⟩ := k_lA hq
          rw [mW_A22, k_nb1, ← eM55] at hP hD
          have hP : va_P D vwCl (mW cI cZ h ad M55) _ := hP
          have hD : va_D A (mW cI cZ h ad M55) := hD
          exact B84 (fun (v2 : Int32) (v3 : Int32) (v4 : Int32) (M : MS) => f_X4_fall_31  k v2 v3 v4 M) ih v2 v3 v4 M55  _ _ _ hq (by show M55.2.2 = M0.2.2; omega) hP hD hS (lv_sub hl [0, 1, 2, 3] rfl)
        · skip
          rw [if_neg c52] at hq
          refine lv_goto (tgt := 84) hx hb dX4_fall_59 (by decide) ?_
          exact B84 (fun (v2 : Int32) (v3 : Int32) (v4 : Int32) (M : MS) => f_X4_fall_31  k v2 v3 v4 M) ih v2 v3 v4 M51  _ _ _ hq (by show M51.2.2 = M0.2.2; omega) hP hD hS (lv_sub hl [0, 1, 2, 3] rfl)
  have hq := hf
  rw [f_X4_fall] at hq
  refine lv_iload_n hx hb dX4_fall_0 rfl (lv_at hl 1 rfl) ?_
  refine lv_if_lt (tgt := 17) hx hb dX4_fall_1 (by decide) (fun c1 => ?_) (fun c1 => ?_)
  · skip
    rw [if_pos c1] at hq
    refine lv_iconst (v := (-1)) hx hb dX4_fall_17 (by decide) ?_
    obtain ⟨e2, e3⟩ := k_so hq
    subst hQ
    have hP : va_P D vwCl (mW cI cZ h ad M0) _ := hP
    have hD : va_D A (mW cI cZ h ad M0) := hD
    refine W.widen (k := 0) (n := 0) (by decide) (by decide) ?_
    have hgE := congrArg (fun X : MS => X.2.2) e3
    have hgE : M0.2.2 = M'.2.2 := hgE
    exact W.iret (v := (-1)) hx hb hr (fun t ht hW => ⟨⟨(-1), (mW cI cZ h ad M0, [(cI, .int), (cZ, .boolean)]), rfl, ⟨e2, (congrArg (fun X : MS => ((mW cI cZ h ad X, [(cI, .int), (cZ, .boolean)]) : va_W × List (ClassId × FieldType))) e3), by omega⟩, ⟨by rw [ht]; exact hP, va_K.moved hW.alike hK, hD⟩⟩, hS.F ht⟩) hS.2.2 dX4_fall_18
  · skip
    rw [if_neg c1] at hq
    refine lv_iload_n hx hb dX4_fall_4 rfl (lv_at hl 1 rfl) ?_
    refine lv_aload_n hx hb dX4_fall_5 rfl (lv_at hl 0 rfl) ?_
    refine va_get (D := D) (ci := 4) (v := .int (M0.1 31)) (C := RX4) (T := TX4) (N := 39) hx hb hts kin_X4_fall_X4 hown hK hP 0 rfl rfl 31 (by decide) (hts _ kw_X4_fall__fieldLink_RX4_127_ActHouseModel_entries_I_) (fun _ h9 => h9) rfl dX4_fall_6 ?_
    refine lv_aload_n hx hb dX4_fall_9 rfl (lv_at hl 0 rfl) ?_
    refine va_get (D := D) (ci := 4) (v := .int (M0.1 32)) (C := RX4) (T := TX4) (N := 39) hx hb hts kin_X4_fall_X4 hown hK hP 0 rfl rfl 32 (by decide) (hts _ kw_X4_fall__fieldLink_RX4_190_ActHouseModel_kept_I_) (fun _ h9 => h9) rfl dX4_fall_10 ?_
    refine lv_isub hx hb dX4_fall_13 ?_
    refine lv_icmp_le (tgt := 19) hx hb dX4_fall_14 (by decide) (fun c2 => ?_) (fun c2 => ?_)
    · skip
      rw [if_pos c2] at hq
      refine lv_aload_n hx hb dX4_fall_19 rfl (lv_at hl 0 rfl) ?_
      refine va_get (D := D) (ci := 4) (v := .int (M0.1 32)) (C := RX4) (T := TX4) (N := 39) hx hb hts kin_X4_fall_X4 hown hK hP 0 rfl rfl 32 (by decide) (hts _ kw_X4_fall__fieldLink_RX4_190_ActHouseModel_kept_I_) (fun _ h9 => h9) rfl dX4_fall_20 ?_
      refine lv_iload_n hx hb dX4_fall_23 rfl (lv_at hl 1 rfl) ?_
      refine lv_iadd hx hb dX4_fall_24 ?_
      refine lv_istore_n (lv' := [(2, .int ((M0.1 32) + x1)), (0, .ref h), (1, .int x1)]) hx hb dX4_fall_25 rfl hl (by decide) rfl (fun ls hl => ?_)
      refine lv_iconst (v := 0) hx hb dX4_fall_26 (by decide) ?_
      refine lv_istore_n (lv' := [(3, .int 0), (2, .int ((M0.1 32) + x1)), (0, .ref h), (1, .int x1)]) hx hb dX4_fall_27 rfl hl (by decide) rfl (fun ls hl => ?_)
      refine lv_iconst (v := 0) hx hb dX4_fall_28 (by decide) ?_
      refine lv_istore (lv' := [(4, .int 0), (3, .int 0), (2, .int ((M0.1 32) + x1)), (0, .ref h), (1, .int x1)]) hx hb dX4_fall_29 hl (by decide) rfl (fun ls hl => ?_)
      exact B31  3000000 ((M0.1 32) + x1) (0 : Int32) (0 : Int32) M0  _ _ _ hq (by show M0.2.2 = M0.2.2; omega) hP hD hS (lv_sub hl [3, 2, 1, 0] rfl)
    · skip
      rw [if_neg c2] at hq
      refine lv_iconst (v := (-1)) hx hb dX4_fall_17 (by decide) ?_
      obtain ⟨e2, e3⟩ := k_so hq
      subst hQ
      have hP : va_P D vwCl (mW cI cZ h ad M0) _ := hP
      have hD : va_D A (mW cI cZ h ad M0) := hD
      refine W.widen (k := 0) (n := 0) (by decide) (by decide) ?_
      have hgE := congrArg (fun X : MS => X.2.2) e3
      have hgE : M0.2.2 = M'.2.2 := hgE
      exact W.iret (v := (-1)) hx hb hr (fun t ht hW => ⟨⟨(-1), (mW cI cZ h ad M0, [(cI, .int), (cZ, .boolean)]), rfl, ⟨e2, (congrArg (fun X : MS => ((mW cI cZ h ad X, [(cI, .int), (cZ, .boolean)]) : va_W × List (ClassId × FieldType))) e3), by omega⟩, ⟨by rw [ht]; exact hP, va_K.moved hW.alike hK, hD⟩⟩, hS.F ht⟩) hS.2.2 dX4_fall_18
