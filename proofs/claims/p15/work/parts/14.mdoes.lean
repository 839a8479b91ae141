set_option maxRecDepth 100000 in
theorem kw_X4_does__fieldLink_RX4_52_ActHouseModel_isHeld_Z_ : (.fieldLink RX4 52 "ActHouseModel" "isHeld" "[Z" : Cond) ∈ wsX4_does := by decide +kernel
set_option maxRecDepth 100000 in
theorem kin_X4_does_X4 : ∀ w ∈ u_ws RX4 TX4 39, w ∈ wsX4_does := by decide +kernel
set_option maxRecDepth 100000 in
theorem kw_X4_does__fieldLink_RX4_49_ActHouseModel_register_I_ : (.fieldLink RX4 49 "ActHouseModel" "register" "[I" : Cond) ∈ wsX4_does := by decide +kernel
set_option maxRecDepth 100000 in
theorem kw_X4_does__fieldLink_RX4_74_ActHouseModel_holds_I_ : (.fieldLink RX4 74 "ActHouseModel" "holds" "[I" : Cond) ∈ wsX4_does := by decide +kernel
set_option maxRecDepth 100000 in
theorem kw_X4_does__constant_RX4_152_1000000_ : (.constant RX4 152 (-1000000) : Cond) ∈ wsX4_does := by decide +kernel
set_option maxRecDepth 100000 in
theorem kw_X4_does__constant_RX4_153_1000000_ : (.constant RX4 153 (1000000) : Cond) ∈ wsX4_does := by decide +kernel
set_option maxRecDepth 100000 in
theorem kw_X4_does__fieldLink_RX4_46_ActHouseModel_at_I_ : (.fieldLink RX4 46 "ActHouseModel" "at" "[I" : Cond) ∈ wsX4_does := by decide +kernel
set_option maxRecDepth 100000 in
theorem kw_X4_does__fieldLink_RX4_40_ActHouseModel_actLong_I_ : (.fieldLink RX4 40 "ActHouseModel" "actLong" "[I" : Cond) ∈ wsX4_does := by decide +kernel
set_option maxRecDepth 100000 in
theorem kw_X4_does__fieldLink_RX4_37_ActHouseModel_state_I_ : (.fieldLink RX4 37 "ActHouseModel" "state" "[I" : Cond) ∈ wsX4_does := by decide +kernel
set_option maxRecDepth 100000 in
theorem kw_X4_does__fieldLink_RX4_86_ActHouseModel_queued_I_ : (.fieldLink RX4 86 "ActHouseModel" "queued" "[I" : Cond) ∈ wsX4_does := by decide +kernel
set_option maxRecDepth 100000 in
theorem kw_X4_does__fieldLink_RX4_89_ActHouseModel_queuedMany_I_ : (.fieldLink RX4 89 "ActHouseModel" "queuedMany" "[I" : Cond) ∈ wsX4_does := by decide +kernel
set_option maxRecDepth 100000 in
theorem kw_X4_does__fieldLink_RX4_80_ActHouseModel_gives_I_ : (.fieldLink RX4 80 "ActHouseModel" "gives" "[I" : Cond) ∈ wsX4_does := by decide +kernel
set_option maxRecDepth 100000 in
theorem kw_X4_does__fieldLink_RX4_83_ActHouseModel_below_I_ : (.fieldLink RX4 83 "ActHouseModel" "below" "[I" : Cond) ∈ wsX4_does := by decide +kernel
set_option maxRecDepth 100000 in
theorem kw_X4_does__fieldLink_RX4_77_ActHouseModel_writes_I_ : (.fieldLink RX4 77 "ActHouseModel" "writes" "[I" : Cond) ∈ wsX4_does := by decide +kernel
def f_X4_does_371  (v1 : Int32)  (M : MS) : Option (Int32 × MS) := (k_bind (f_X4_logs (3 : Int32) v1 ((-1) : Int32) M) fun r22 M22 => (k_bind (f_X4_clears v1 M22) fun r23 M23 => (if 0 ≤ v1.toInt ∧ v1.toInt < 80 then (k_let (mA M23 11 v1.toNatClampNeg (4 : Int32)) fun M25 => some ((0 : Int32), M25)) else none)))
def f_X4_does_355  (v1 : Int32) (v6 : Int32)  (M : MS) : Option (Int32 × MS) := (if 0 ≤ v1.toInt ∧ v1.toInt < 80 then (if (f_X4_in ((M.2.1 15) v1.toNatClampNeg) ((-1000000) : Int32) (1000000 : Int32)) = 0 then f_X4_does_371  v1 M else (k_let (mA M 14 v1.toNatClampNeg (((M.2.1 14) v1.toNatClampNeg) + (1 + v6))) fun M19 => (if ((M19.2.1 14) v1.toNatClampNeg) < ((M19.2.1 12) v1.toNatClampNeg) then some ((0 : Int32), M19) else (k_bind (f_X4_isDone v1 M19) fun r21 M21 => some ((0 : Int32), M21))))) else none)
def f_X4_does_341  (v1 : Int32) (v3 : Int32) (v6 : Int32)  (M : MS) : Option (Int32 × MS) := (if v3 = 5 then (if 0 ≤ v1.toInt ∧ v1.toInt < 80 then (if ((M.2.1 15) v1.toNatClampNeg) < 0 then f_X4_does_371  v1 M else f_X4_does_355  v1 v6 M) else none) else f_X4_does_355  v1 v6 M)
def f_X4_does_100  (v1 : Int32) (v3 : Int32) (v4 : Int32) (v6 : Int32) (s0 : Int32) (s1 : Int32) (s2 : Int32)  (M : MS) : Option (Int32 × MS) := (if 0 ≤ s2.toInt ∧ s2.toInt < 80 then (k_let (mA M 15 s2.toNatClampNeg (s1 + s0)) fun M12 => (if 0 ≤ ((24 * v1) + v4).toInt ∧ ((24 * v1) + v4).toInt < 1920 then (if ((M12.2.1 23) ((24 * v1) + v4).toNatClampNeg) = 0 then (k_let (mA M12 23 (((24 * v1) + v4).toNatClampNeg) (1 : Int32)) fun M28 => f_X4_does_341  v1 v3 v6 M28) else f_X4_does_341  v1 v3 v6 M12) else none)) else none)
def f_X4_does_73  (v1 : Int32) (v3 : Int32) (v4 : Int32) (v6 : Int32)  (M : MS) : Option (Int32 × MS) := (k_bind (f_X4_seen v1 v4 M) fun r9 M9 => (if v3 = 4 then (if 0 ≤ v1.toInt ∧ v1.toInt < 80 then f_X4_does_100  v1 v3 v4 v6 ((M9.2.1 15) v1.toNatClampNeg) r9 v1 M9 else none) else f_X4_does_100  v1 v3 v4 v6 (0 : Int32) r9 v1 M9))
def f_X4_does_339  (v1 : Int32) (v3 : Int32) (s0 : Int32)  (M : MS) : Option (Int32 × MS) := f_X4_does_341  v1 v3 s0 M
def f_X4_does_276  (v1 : Int32) (v3 : Int32) (v6 : Int32) (s0 : Int32) (s1 : Int32) (s2 : Int32)  (M : MS) : Option (Int32 × MS) := (if 0 ≤ s2.toInt ∧ s2.toInt < 640 then (k_let (mA M 26 s2.toNatClampNeg (s1 + s0)) fun M45 => f_X4_does_341  v1 v3 v6 M45) else none)
def f_X4_does_50  (v1 : Int32) (v3 : Int32) (v4 : Int32) (v5 : Int32) (s0 : Int32) (s1 : Int32)  (M : MS) : Option (Int32 × MS) := (if 0 ≤ s1.toInt ∧ s1.toInt < 80 then (k_let (mA M 16 s1.toNatClampNeg (s0 &&& 1)) fun M5 => (if 0 ≤ v1.toInt ∧ v1.toInt < 80 then (if ((M5.2.1 16) v1.toNatClampNeg) = 0 then (if v3 = 0 then f_X4_does_73  v1 v3 v4 (0 : Int32) M5 else (if v3 = 4 then f_X4_does_73  v1 v3 v4 (0 : Int32) M5 else (if v3 = 1 then (k_let (mA M5 15 v1.toNatClampNeg (v5 - 50)) fun M51 => f_X4_does_341  v1 v3 (0 : Int32) M51) else (if v3 = 2 then (k_let (mA M5 15 v1.toNatClampNeg (((M5.2.1 15) v1.toNatClampNeg) + (v5 - 50))) fun M50 => f_X4_does_341  v1 v3 (0 : Int32) M50) else (if v3 = 3 then (if 0 ≤ ((24 * v1) + v4).toInt ∧ ((24 * v1) + v4).toInt < 1920 then (k_let (mA M5 23 (((24 * v1) + v4).toNatClampNeg) (2 : Int32)) fun M47 => (k_let (mA M47 24 (((24 * v1) + v4).toNatClampNeg) ((M47.2.1 15) v1.toNatClampNeg)) fun M48 => (k_bind (f_X4_logs (1 : Int32) v1 v4 M48) fun r49 M49 => f_X4_does_341  v1 v3 (0 : Int32) M49))) else none) else (if v3 = 6 then (if 0 ≤ ((8 * v1) + v4).toInt ∧ ((8 * v1) + v4).toInt < 640 then (k_let (mA M5 25 (((8 * v1) + v4).toNatClampNeg) (((M5.2.1 25) ((8 * v1) + v4).toNatClampNeg) + (v5 - 50))) fun M42 => (if 50 ≤ v5 then f_X4_does_276  v1 v3 (0 : Int32) (0 : Int32) ((M42.2.1 26) ((8 * v1) + v4).toNatClampNeg) ((8 * v1) + v4) M42 else f_X4_does_276  v1 v3 (0 : Int32) (v5 - 50) ((M42.2.1 26) ((8 * v1) + v4).toNatClampNeg) ((8 * v1) + v4) M42)) else none) else (if v3 = 7 then (if 0 ≤ ((12 * v1) + ((M5.2.1 28) v1.toNatClampNeg)).toInt ∧ ((12 * v1) + ((M5.2.1 28) v1.toNatClampNeg)).toInt < 960 then (k_let (mA M5 27 (((12 * v1) + ((M5.2.1 28) v1.toNatClampNeg)).toNatClampNeg) v4) fun M39 => (k_let (mA M39 28 v1.toNatClampNeg (((M39.2.1 28) v1.toNatClampNeg) + 1)) fun M40 => f_X4_does_341  v1 v3 (0 : Int32) M40)) else none) else (if v3 ≤ 7 then f_X4_does_341  v1 v3 (0 : Int32) M5 else (if 0 ≤ ((M5.2.1 15) v1.toNatClampNeg) then f_X4_does_339  v1 v3 (0 : Int32) M5 else f_X4_does_339  v1 v3 v5 M5))))))))) else some ((0 : Int32), M5)) else none)) else none)
def f_X4_does (x1 : Int32) (M0 : MS) : Option (Int32 × MS) := (k_bind (f_X4_stepOf x1 M0) fun r1 M1 => (k_bind (f_X4_canDo x1 (r1 / 10000) ((r1 / 100) - (r1 / 100) / 100 * 100) (r1 - r1 / 100 * 100) M1) fun r2 M2 => (if r2 = 0 then f_X4_does_50  x1 (r1 / 10000) ((r1 / 100) - (r1 / 100) / 100 * 100) (r1 - r1 / 100 * 100) (1 : Int32) x1 M2 else f_X4_does_50  x1 (r1 / 10000) ((r1 / 100) - (r1 / 100) / 100 * 100) (r1 - r1 / 100 * 100) (0 : Int32) x1 M2)))
set_option maxHeartbeats 4000000 in
set_option maxRecDepth 100000 in
theorem c_X4_does {l : Launch} {D : va_G} {hp : Heap} {cI cZ : ClassId} {h : Nat} {ad : Nat → Nat} {M0 M' : MS} {x1 r' : Int32} (hg : M0.2.2 ≤ 2048000) (hf : f_X4_does x1 M0 = some (r', M')) : Met l yX4_does wsX4_does ({ frames := 3, cells := (2048000 - M0.2.2) / 4000, slots := 2 * (2048000 - M0.2.2), locals := 73 }) (va_Pc [.ref h, .int x1] (k_PreH D [(cI, .int), (cZ, .boolean)] (mW cI cZ h ad M0) hp)) (va_Qv (fun (u : va_W × List (ClassId × FieldType)) => ∃ ad' : Nat → Nat, u = (mW cI cZ h ad' M', [(cI, .int), (cZ, .boolean)]) ∧ M0.2.2 ≤ M'.2.2 ∧ M'.2.2 ≤ 2048000) (k_BM D (va_A (mW cI cZ h ad M0) hp.size) hp ((M'.2.2 - M0.2.2) / 4000) (2 * (M'.2.2 - M0.2.2))) (va_A (mW cI cZ h ad M0) hp.size)) ((2048000 - M0.2.2) / 4000) (2 * (2048000 - M0.2.2)) (va_A (mW cI cZ h ad M0) hp.size) := by
  refine Met.ofW (cc := cX4_does) (maxL := 7) (ret := none) (by decide) rfl ?_
  intro p e s m args below meth c s₁ B hml hv
  obtain ⟨rfl, hsz, hP, hK, hD0⟩ := hv
  have hx := B.exec
  have hb := B.bytes
  have hr := B.returns
  have hts := atoms_spec (ws := wsX4_does) B.pre
  have hown : s.vm.findClass RX4 = some m.cls := findClass_of_methodNamed B.named
  have hlocks := B.notSynchronized
  have hsz : s.heap = hp := hsz
  subst hsz
  have hD := hD0.self (sz := s.heap.size)
  generalize hAe : va_A (mW cI cZ h ad M0) s.heap.size = A at hD ⊢
  have hA : ∀ q : Nat, s.heap.size ≤ q → A q := fun q h => by rw [← hAe]; exact Or.inr h
  have hS : va_S A s.heap s.heap [] := va_S.rf
  have hl := lv_entry ([.ref h, .int x1]) (n := 7) (Nat.le_of_ble_eq_true rfl)
  rw [lg_entry_eq]
  generalize (lg_sl ([.ref h, .int x1]) ++ List.replicate (7 - (lg_sl ([.ref h, .int x1])).length) Slot.unset).toArray = ls at hl ⊢
  have hl : lv_has ls 7 [(0, .ref h), (1, .int x1)] := hl
  refine k_Q (fun Q hQ => ?_)
  have B371 : ∀ (v1 : Int32)  (M : MS) (ad : Nat → Nat) (H : Heap) (locs : List Loc) (ls : Array Slot), f_X4_does_371 v1 M = some (r', M') → (M0.2.2 ≤ M.2.2 ∧ M.2.2 ≤ 2048000) → va_P D vwCl (mW cI cZ h ad M) H → va_D A (mW cI cZ h ad M) → va_S A s.heap H locs → lv_has ls 7 [(0, .ref h), (1, .int v1)] → W p l e (headSpec wsX4_does ({ frames := 3, cells := (2048000 - M0.2.2) / 4000, slots := 2 * (2048000 - M0.2.2), locals := 73 })).room s m ([.ref h, .int x1] : List Value).toArray below meth c H locs (((M.2.2 - M0.2.2) / 4000)) ((2 * (M.2.2 - M0.2.2))) Q (F0 m 371 ls []) := by
    intro v1  M ad H locs ls hq hg hP hD hS hl
    rw [f_X4_does_371] at hq
    refine lv_aload_n hx hb dX4_does_371 rfl (lv_at hl 0 rfl) ?_
    refine lv_iconst (v := 3) hx hb dX4_does_372 (by decide) ?_
    refine lv_iload_n hx hb dX4_does_373 rfl (lv_at hl 1 rfl) ?_
    refine lv_iconst (v := (-1)) hx hb dX4_does_374 (by decide) ?_
    obtain ⟨r22, M22, h22, hq⟩ := k_bd hq
    have hFc := k_free hD hS hA
    refine k_facts (fun hn1 hn2 hn3 => ?_)
    refine va_callv (va_runV (As := [.int 3, .int v1, .int (-1)]) (rest := []) ⟨hx, hb, hml, hown, hts⟩ (c_X4_logs (l := l) (D := D) (cI := cI) (cZ := cZ) (h := h) (ad := ad)  (hg := by show M.2.2 ≤ 2048000; omega) (hf := h22)) (cwV 3 hts gX4_does_X4_logs rfl rfl rfl (by decide +kernel) ⟨Nat.le_of_ble_eq_true rfl, Nat.le_of_ble_eq_true rfl⟩) ⟨k_blindH, va_recv hK hP (ci := 4) (q0 := 0) rfl rfl, fun U hU hW => ⟨rfl, k_preH hU hW hP hK hD⟩⟩ rfl rfl hl.1 rfl (lv_room (Nat.le_of_ble_eq_true rfl)) dX4_does_375 ⟨by show (M.2.2 - M0.2.2) / 4000 + (2048000 - M.2.2) / 4000 ≤ (2048000 - M0.2.2) / 4000; omega, by show 2 * (M.2.2 - M0.2.2) + 2 * (2048000 - M.2.2) ≤ 2 * (2048000 - M0.2.2); omega⟩) hS (fun q _ h => hFc q h) hFc (fun u t H1 locs ht hvm hw hB hz1 hk1 hS => ?_)
    obtain ⟨ad, rfl, hg22, hh22⟩ := hw
    have hg22 : M.2.2 ≤ M22.2.2 := hg22
    obtain ⟨hB, hz2, hz3, hz4⟩ := hB
    rw [ht] at hz2 hz3 hz4
    refine k_tight (k := ((M22.2.2 - M0.2.2) / 4000)) (n := (2 * (M22.2.2 - M0.2.2))) (by omega) (by rw [k_nS_tr hn3.1 hz2]; omega) ?_
    obtain ⟨hP1, hK1, hD1⟩ := hB
    rw [ht] at hP1
    have hP := hP1
    have hD := k_weak hD1 hFc
    generalize H1 = H at hP hS ⊢
    have hP : va_P D vwCl (mW cI cZ h ad M22) _ := hP
    have hD : va_D A (mW cI cZ h ad M22) := hD
    refine lv_aload_n hx hb dX4_does_378 rfl (lv_at hl 0 rfl) ?_
    refine lv_iload_n hx hb dX4_does_379 rfl (lv_at hl 1 rfl) ?_
    obtain ⟨r23, M23, h23, hq⟩ := k_bd hq
    have hFc := k_free hD hS hA
    refine va_callv (va_runV (As := [.int v1]) (rest := []) ⟨hx, hb, hml, hown, hts⟩ (c_X4_clears (l := l) (D := D) (cI := cI) (cZ := cZ) (h := h) (ad := ad)  (hf := h23)) (cwV 1 hts gX4_does_X4_clears rfl rfl rfl (by decide +kernel) ⟨Nat.le_of_ble_eq_true rfl, Nat.le_of_ble_eq_true rfl⟩) ⟨k_blind, va_recv hK hP (ci := 4) (q0 := 0) rfl rfl, fun U hU hW => ⟨rfl, k_pre hU hW hP hK hD⟩⟩ rfl rfl hl.1 rfl (lv_room (Nat.le_of_ble_eq_true rfl)) dX4_does_380 ⟨by show (M22.2.2 - M0.2.2) / 4000 + 0 ≤ (2048000 - M0.2.2) / 4000; omega, by show 2 * (M22.2.2 - M0.2.2) + 0 ≤ 2 * (2048000 - M0.2.2); omega⟩) hS (fun q _ h => hFc q h) hFc (fun u t H1 locs ht hvm hw hB hz1 hk1 hS => ?_)
    obtain ⟨rfl, hg23⟩ := hw
    have hg23 : M23.2.2 = M22.2.2 := hg23
    refine W.widen (k := ((M23.2.2 - M0.2.2) / 4000)) (n := (2 * (M23.2.2 - M0.2.2))) (by omega) (by omega) ?_
    obtain ⟨hP1, hK1, hD1⟩ := hB
    rw [ht] at hP1
    have hP := hP1
    have hD := k_weak hD1 hFc
    generalize H1 = H at hP hS ⊢
    have hP : va_P D vwCl (mW cI cZ h ad M23) _ := hP
    have hD : va_D A (mW cI cZ h ad M23) := hD
    refine lv_aload_n hx hb dX4_does_383 rfl (lv_at hl 0 rfl) ?_
    refine va_get (D := D) (ci := 4) (v := .ref (ad 11)) (C := RX4) (T := TX4) (N := 39) hx hb hts kin_X4_does_X4 hown hK hP 0 rfl rfl 11 (by decide) (hts _ kw_X4_does__fieldLink_RX4_37_ActHouseModel_state_I_) (fun _ h9 => h9) rfl dX4_does_384 ?_
    refine lv_iload_n hx hb dX4_does_387 rfl (lv_at hl 1 rfl) ?_
    refine lv_iconst (v := 4) hx hb dX4_does_388 (by decide) ?_
    obtain ⟨b24, hq⟩ := k_if hq
    refine va_iast hx hb hK hP hD hS 10 0 (f := (M23.2.1 11)) rfl rfl (x := 4) (k_in b24.1 b24.2) dX4_does_389 (fun H locs hP hD hS => ?_)
    obtain ⟨M25, eM25, hg25, hq⟩ := k_lA hq
    rw [mW_A11, ← eM25] at hP hD
    have hP : va_P D vwCl (mW cI cZ h ad M25) _ := hP
    have hD : va_D A (mW cI cZ h ad M25) := hD
    refine W.widen (k := ((M25.2.2 - M0.2.2) / 4000)) (n := (2 * (M25.2.2 - M0.2.2))) (by omega) (by omega) ?_
    obtain ⟨e2, e3⟩ := k_so hq
    subst hQ
    have hP : va_P D vwCl (mW cI cZ h ad M25) _ := hP
    have hD : va_D A (mW cI cZ h ad M25) := hD
    have hgE := congrArg (fun X : MS => X.2.2) e3
    have hgE : M25.2.2 = M'.2.2 := hgE
    refine k_facts (fun hm1 hm2 hm3 => ?_)
    refine W.widen (k := (2048000 - M0.2.2) / 4000) (n := 2 * (2048000 - M0.2.2)) (by omega) (by omega) ?_
    exact W.vret hx hb hr (fun t ht hW => ⟨⟨(mW cI cZ h ad M25, [(cI, .int), (cZ, .boolean)]), rfl, ⟨ad, (congrArg (fun X : MS => ((mW cI cZ h ad X, [(cI, .int), (cZ, .boolean)]) : va_W × List (ClassId × FieldType))) e3), by omega, by omega⟩, ⟨⟨by rw [ht]; exact hP, va_K.moved hW.alike hK, hD⟩, by rw [ht]; exact hm3, by rw [ht]; omega, by rw [ht]; omega⟩⟩, hS.F ht⟩) hS.2.2 dX4_does_390
  have B355 : ∀ (v1 : Int32) (v6 : Int32)  (M : MS) (ad : Nat → Nat) (H : Heap) (locs : List Loc) (ls : Array Slot), f_X4_does_355 v1 v6 M = some (r', M') → (M0.2.2 ≤ M.2.2 ∧ M.2.2 ≤ 2048000) → va_P D vwCl (mW cI cZ h ad M) H → va_D A (mW cI cZ h ad M) → va_S A s.heap H locs → lv_has ls 7 [(0, .ref h), (1, .int v1), (6, .int v6)] → W p l e (headSpec wsX4_does ({ frames := 3, cells := (2048000 - M0.2.2) / 4000, slots := 2 * (2048000 - M0.2.2), locals := 73 })).room s m ([.ref h, .int x1] : List Value).toArray below meth c H locs (((M.2.2 - M0.2.2) / 4000)) ((2 * (M.2.2 - M0.2.2))) Q (F0 m 355 ls []) := by
    intro v1 v6  M ad H locs ls hq hg hP hD hS hl
    rw [f_X4_does_355] at hq
    refine lv_aload_n hx hb dX4_does_355 rfl (lv_at hl 0 rfl) ?_
    refine va_get (D := D) (ci := 4) (v := .ref (ad 15)) (C := RX4) (T := TX4) (N := 39) hx hb hts kin_X4_does_X4 hown hK hP 0 rfl rfl 15 (by decide) (hts _ kw_X4_does__fieldLink_RX4_49_ActHouseModel_register_I_) (fun _ h9 => h9) rfl dX4_does_356 ?_
    refine lv_iload_n hx hb dX4_does_359 rfl (lv_at hl 1 rfl) ?_
    obtain ⟨b16, hq⟩ := k_if hq
    refine va_iald hx hb hK hP 14 0 (f := (M.2.1 15)) rfl rfl (k_in b16.1 b16.2) dX4_does_360 ?_
    refine lv_ldc (v := (-1000000)) hx hb hown (hts _ kw_X4_does__constant_RX4_152_1000000_) dX4_does_361 ?_
    refine lv_ldc (v := 1000000) hx hb hown (hts _ kw_X4_does__constant_RX4_153_1000000_) dX4_does_363 ?_
    have hFc := k_free hD hS hA
    refine va_calli (va_runS (As := [.int ((M.2.1 15) v1.toNatClampNeg), .int (-1000000), .int 1000000]) (rest := []) ⟨hx, hb, hml, hown, hts⟩ (c_X4_in (l := l) (D := D) (cI := cI) (cZ := cZ) (h := h) (ad := ad) (M0 := M) (hf := rfl)) (va_cwS 3 hts gX4_does_X4_in rfl rfl rfl (by decide +kernel) ⟨Nat.le_of_ble_eq_true rfl, Nat.le_of_ble_eq_true rfl⟩) ⟨k_blind, fun U hU hW => ⟨rfl, k_pre hU hW hP hK hD⟩⟩ rfl rfl hl.1 rfl (lv_room (Nat.le_of_ble_eq_true rfl)) dX4_does_365 ⟨by show (M.2.2 - M0.2.2) / 4000 + 0 ≤ (2048000 - M0.2.2) / 4000; omega, by show 2 * (M.2.2 - M0.2.2) + 0 ≤ 2 * (2048000 - M0.2.2); omega⟩) hS (fun q _ h => hFc q h) hFc (fun r17 u t H1 locs ht hvm hw hB hz1 hk1 hS => ?_)
    obtain ⟨rfl, rfl⟩ := hw
    refine W.widen (k := ((M.2.2 - M0.2.2) / 4000)) (n := (2 * (M.2.2 - M0.2.2))) (by omega) (by omega) ?_
    obtain ⟨hP1, hK1, hD1⟩ := hB
    rw [ht] at hP1
    have hP := hP1
    have hD := k_weak hD1 hFc
    generalize H1 = H at hP hS ⊢
    have hP : va_P D vwCl (mW cI cZ h ad M) _ := hP
    have hD : va_D A (mW cI cZ h ad M) := hD
    refine lv_if_ne (tgt := 391) hx hb dX4_does_368 (by decide) (fun c18 => ?_) (fun c18 => ?_)
    · skip
      rw [if_neg c18] at hq
      refine lv_aload_n hx hb dX4_does_391 rfl (lv_at hl 0 rfl) ?_
      refine va_get (D := D) (ci := 4) (v := .ref (ad 14)) (C := RX4) (T := TX4) (N := 39) hx hb hts kin_X4_does_X4 hown hK hP 0 rfl rfl 14 (by decide) (hts _ kw_X4_does__fieldLink_RX4_46_ActHouseModel_at_I_) (fun _ h9 => h9) rfl dX4_does_392 ?_
      refine lv_iload_n hx hb dX4_does_395 rfl (lv_at hl 1 rfl) ?_
      refine lv_dup2_11 hx hb dX4_does_396 rfl rfl ?_
      refine va_iald hx hb hK hP 13 0 (f := (M.2.1 14)) rfl rfl (k_in b16.1 b16.2) dX4_does_397 ?_
      refine lv_iconst (v := 1) hx hb dX4_does_398 (by decide) ?_
      refine lv_iload hx hb dX4_does_399 (lv_at hl 2 rfl) ?_
      refine lv_iadd hx hb dX4_does_401 ?_
      refine lv_iadd hx hb dX4_does_402 ?_
      refine va_iast hx hb hK hP hD hS 13 0 (f := (M.2.1 14)) rfl rfl (x := (((M.2.1 14) v1.toNatClampNeg) + (1 + v6))) (k_in b16.1 b16.2) dX4_does_403 (fun H locs hP hD hS => ?_)
      obtain ⟨M19, eM19, hg19, hq⟩ := k_lA hq
      rw [mW_A14, ← eM19] at hP hD
      have hP : va_P D vwCl (mW cI cZ h ad M19) _ := hP
      have hD : va_D A (mW cI cZ h ad M19) := hD
      refine W.widen (k := ((M19.2.2 - M0.2.2) / 4000)) (n := (2 * (M19.2.2 - M0.2.2))) (by omega) (by omega) ?_
      refine lv_aload_n hx hb dX4_does_404 rfl (lv_at hl 0 rfl) ?_
      refine va_get (D := D) (ci := 4) (v := .ref (ad 14)) (C := RX4) (T := TX4) (N := 39) hx hb hts kin_X4_does_X4 hown hK hP 0 rfl rfl 14 (by decide) (hts _ kw_X4_does__fieldLink_RX4_46_ActHouseModel_at_I_) (fun _ h9 => h9) rfl dX4_does_405 ?_
      refine lv_iload_n hx hb dX4_does_408 rfl (lv_at hl 1 rfl) ?_
      refine va_iald hx hb hK hP 13 0 (f := (M19.2.1 14)) rfl rfl (k_in b16.1 b16.2) dX4_does_409 ?_
      refine lv_aload_n hx hb dX4_does_410 rfl (lv_at hl 0 rfl) ?_
      refine va_get (D := D) (ci := 4) (v := .ref (ad 12)) (C := RX4) (T := TX4) (N := 39) hx hb hts kin_X4_does_X4 hown hK hP 0 rfl rfl 12 (by decide) (hts _ kw_X4_does__fieldLink_RX4_40_ActHouseModel_actLong_I_) (fun _ h9 => h9) rfl dX4_does_411 ?_
      refine lv_iload_n hx hb dX4_does_414 rfl (lv_at hl 1 rfl) ?_
      refine va_iald hx hb hK hP 11 0 (f := (M19.2.1 12)) rfl rfl (k_in b16.1 b16.2) dX4_does_415 ?_
      refine lv_icmp_lt (tgt := 424) hx hb dX4_does_416 (by decide) (fun c20 => ?_) (fun c20 => ?_)
      · skip
        rw [if_pos c20] at hq
        obtain ⟨e2, e3⟩ := k_so hq
        subst hQ
        have hP : va_P D vwCl (mW cI cZ h ad M19) _ := hP
        have hD : va_D A (mW cI cZ h ad M19) := hD
        have hgE := congrArg (fun X : MS => X.2.2) e3
        have hgE : M19.2.2 = M'.2.2 := hgE
        refine k_facts (fun hm1 hm2 hm3 => ?_)
        refine W.widen (k := (2048000 - M0.2.2) / 4000) (n := 2 * (2048000 - M0.2.2)) (by omega) (by omega) ?_
        exact W.vret hx hb hr (fun t ht hW => ⟨⟨(mW cI cZ h ad M19, [(cI, .int), (cZ, .boolean)]), rfl, ⟨ad, (congrArg (fun X : MS => ((mW cI cZ h ad X, [(cI, .int), (cZ, .boolean)]) : va_W × List (ClassId × FieldType))) e3), by omega, by omega⟩, ⟨⟨by rw [ht]; exact hP, va_K.moved hW.alike hK, hD⟩, by rw [ht]; exact hm3, by rw [ht]; omega, by rw [ht]; omega⟩⟩, hS.F ht⟩) hS.2.2 dX4_does_424
      · skip
        rw [if_neg c20] at hq
        refine lv_aload_n hx hb dX4_does_419 rfl (lv_at hl 0 rfl) ?_
        refine lv_iload_n hx hb dX4_does_420 rfl (lv_at hl 1 rfl) ?_
        obtain ⟨r21, M21, h21, hq⟩ := k_bd hq
        have hFc := k_free hD hS hA
        refine k_facts (fun hn1 hn2 hn3 => ?_)
        refine va_callv (va_runV (As := [.int v1]) (rest := []) ⟨hx, hb, hml, hown, hts⟩ (c_X4_isDone (l := l) (D := D) (cI := cI) (cZ := cZ) (h := h) (ad := ad)  (hg := by show M19.2.2 ≤ 2048000; omega) (hf := h21)) (cwV 1 hts gX4_does_X4_isDone rfl rfl rfl (by decide +kernel) ⟨Nat.le_of_ble_eq_true rfl, Nat.le_of_ble_eq_true rfl⟩) ⟨k_blindH, va_recv hK hP (ci := 4) (q0 := 0) rfl rfl, fun U hU hW => ⟨rfl, k_preH hU hW hP hK hD⟩⟩ rfl rfl hl.1 rfl (lv_room (Nat.le_of_ble_eq_true rfl)) dX4_does_421 ⟨by show (M19.2.2 - M0.2.2) / 4000 + (2048000 - M19.2.2) / 4000 ≤ (2048000 - M0.2.2) / 4000; omega, by show 2 * (M19.2.2 - M0.2.2) + 2 * (2048000 - M19.2.2) ≤ 2 * (2048000 - M0.2.2); omega⟩) hS (fun q _ h => hFc q h) hFc (fun u t H1 locs ht hvm hw hB hz1 hk1 hS => ?_)
        obtain ⟨ad, rfl, hg21, hh21⟩ := hw
        have hg21 : M19.2.2 ≤ M21.2.2 := hg21
        obtain ⟨hB, hz2, hz3, hz4⟩ := hB
        rw [ht] at hz2 hz3 hz4
        refine k_tight (k := ((M21.2.2 - M0.2.2) / 4000)) (n := (2 * (M21.2.2 - M0.2.2))) (by omega) (by rw [k_nS_tr hn3.1 hz2]; omega) ?_
        obtain ⟨hP1, hK1, hD1⟩ := hB
        rw [ht] at hP1
        have hP := hP1
        have hD := k_weak hD1 hFc
        generalize H1 = H at hP hS ⊢
        have hP : va_P D vwCl (mW cI cZ h ad M21) _ := hP
        have hD : va_D A (mW cI cZ h ad M21) := hD
        obtain ⟨e2, e3⟩ := k_so hq
        subst hQ
        have hP : va_P D vwCl (mW cI cZ h ad M21) _ := hP
        have hD : va_D A (mW cI cZ h ad M21) := hD
        have hgE := congrArg (fun X : MS => X.2.2) e3
        have hgE : M21.2.2 = M'.2.2 := hgE
        refine k_facts (fun hm1 hm2 hm3 => ?_)
        refine W.widen (k := (2048000 - M0.2.2) / 4000) (n := 2 * (2048000 - M0.2.2)) (by omega) (by omega) ?_
        exact W.vret hx hb hr (fun t ht hW => ⟨⟨(mW cI cZ h ad M21, [(cI, .int), (cZ, .boolean)]), rfl, ⟨ad, (congrArg (fun X : MS => ((mW cI cZ h ad X, [(cI, .int), (cZ, .boolean)]) : va_W × List (ClassId × FieldType))) e3), by omega, by omega⟩, ⟨⟨by rw [ht]; exact hP, va_K.moved hW.alike hK, hD⟩, by rw [ht]; exact hm3, by rw [ht]; omega, by rw [ht]; omega⟩⟩, hS.F ht⟩) hS.2.2 dX4_does_424
    · skip
      rw [if_pos c18] at hq
      exact B371  v1 M ad _ _ _ hq (by show M0.2.2 ≤ M.2.2 ∧ M.2.2 ≤ 2048000; omega) hP hD hS (lv_sub hl [0, 1] rfl)
  have B341 : ∀ (v1 : Int32) (v3 : Int32) (v6 : Int32)  (M : MS) (ad : Nat → Nat) (H : Heap) (locs : List Loc) (ls : Array Slot), f_X4_does_341 v1 v3 v6 M = some (r', M') → (M0.2.2 ≤ M.2.2 ∧ M.2.2 ≤ 2048000) → va_P D vwCl (mW cI cZ h ad M) H → va_D A (mW cI cZ h ad M) → va_S A s.heap H locs → lv_has ls 7 [(0, .ref h), (1, .int v1), (3, .int v3), (6, .int v6)] → W p l e (headSpec wsX4_does ({ frames := 3, cells := (2048000 - M0.2.2) / 4000, slots := 2 * (2048000 - M0.2.2), locals := 73 })).room s m ([.ref h, .int x1] : List Value).toArray below meth c H locs (((M.2.2 - M0.2.2) / 4000)) ((2 * (M.2.2 - M0.2.2))) Q (F0 m 341 ls []) := by
    intro v1 v3 v6  M ad H locs ls hq hg hP hD hS hl
    rw [f_X4_does_341] at hq
    refine lv_iload_n hx hb dX4_does_341 rfl (lv_at hl 2 rfl) ?_
    refine lv_iconst (v := 5) hx hb dX4_does_342 (by decide) ?_
    refine lv_icmp_ne (tgt := 355) hx hb dX4_does_343 (by decide) (fun c15 => ?_) (fun c15 => ?_)
    · skip
      rw [if_neg c15] at hq
      exact B355  v1 v6 M ad _ _ _ hq (by show M0.2.2 ≤ M.2.2 ∧ M.2.2 ≤ 2048000; omega) hP hD hS (lv_sub hl [0, 1, 3] rfl)
    · skip
      rw [if_pos c15] at hq
      refine lv_aload_n hx hb dX4_does_346 rfl (lv_at hl 0 rfl) ?_
      refine va_get (D := D) (ci := 4) (v := .ref (ad 15)) (C := RX4) (T := TX4) (N := 39) hx hb hts kin_X4_does_X4 hown hK hP 0 rfl rfl 15 (by decide) (hts _ kw_X4_does__fieldLink_RX4_49_ActHouseModel_register_I_) (fun _ h9 => h9) rfl dX4_does_347 ?_
      refine lv_iload_n hx hb dX4_does_350 rfl (lv_at hl 1 rfl) ?_
      obtain ⟨b26, hq⟩ := k_if hq
      refine va_iald hx hb hK hP 14 0 (f := (M.2.1 15)) rfl rfl (k_in b26.1 b26.2) dX4_does_351 ?_
      refine lv_if_lt (tgt := 371) hx hb dX4_does_352 (by decide) (fun c27 => ?_) (fun c27 => ?_)
      · skip
        rw [if_pos c27] at hq
        exact B371  v1 M ad _ _ _ hq (by show M0.2.2 ≤ M.2.2 ∧ M.2.2 ≤ 2048000; omega) hP hD hS (lv_sub hl [0, 1] rfl)
      · skip
        rw [if_neg c27] at hq
        exact B355  v1 v6 M ad _ _ _ hq (by show M0.2.2 ≤ M.2.2 ∧ M.2.2 ≤ 2048000; omega) hP hD hS (lv_sub hl [0, 1, 3] rfl)
  have B100 : ∀ (v1 : Int32) (v3 : Int32) (v4 : Int32) (v6 : Int32) (s0 : Int32) (s1 : Int32) (s2 : Int32)  (M : MS) (ad : Nat → Nat) (H : Heap) (locs : List Loc) (ls : Array Slot), f_X4_does_100 v1 v3 v4 v6 s0 s1 s2 M = some (r', M') → (M0.2.2 ≤ M.2.2 ∧ M.2.2 ≤ 2048000) → va_P D vwCl (mW cI cZ h ad M) H → va_D A (mW cI cZ h ad M) → va_S A s.heap H locs → lv_has ls 7 [(0, .ref h), (1, .int v1), (3, .int v3), (4, .int v4), (6, .int v6)] → W p l e (headSpec wsX4_does ({ frames := 3, cells := (2048000 - M0.2.2) / 4000, slots := 2 * (2048000 - M0.2.2), locals := 73 })).room s m ([.ref h, .int x1] : List Value).toArray below meth c H locs (((M.2.2 - M0.2.2) / 4000)) ((2 * (M.2.2 - M0.2.2))) Q (F0 m 100 ls [.int s0, .int s1, .int s2, .ref (ad 15)]) := by
    intro v1 v3 v4 v6 s0 s1 s2  M ad H locs ls hq hg hP hD hS hl
    rw [f_X4_does_100] at hq
    refine lv_iadd hx hb dX4_does_100 ?_
    obtain ⟨b11, hq⟩ := k_if hq
    refine va_iast hx hb hK hP hD hS 14 0 (f := (M.2.1 15)) rfl rfl (x := (s1 + s0)) (k_in b11.1 b11.2) dX4_does_101 (fun H locs hP hD hS => ?_)
    obtain ⟨M12, eM12, hg12, hq⟩ := k_lA hq
    rw [mW_A15, ← eM12] at hP hD
    have hP : va_P D vwCl (mW cI cZ h ad M12) _ := hP
    have hD : va_D A (mW cI cZ h ad M12) := hD
    refine W.widen (k := ((M12.2.2 - M0.2.2) / 4000)) (n := (2 * (M12.2.2 - M0.2.2))) (by omega) (by omega) ?_
    refine lv_aload_n hx hb dX4_does_102 rfl (lv_at hl 0 rfl) ?_
    refine va_get (D := D) (ci := 4) (v := .ref (ad 23)) (C := RX4) (T := TX4) (N := 39) hx hb hts kin_X4_does_X4 hown hK hP 0 rfl rfl 23 (by decide) (hts _ kw_X4_does__fieldLink_RX4_74_ActHouseModel_holds_I_) (fun _ h9 => h9) rfl dX4_does_103 ?_
    refine lv_bipush (v := 24) hx hb dX4_does_106 (by decide) ?_
    refine lv_iload_n hx hb dX4_does_108 rfl (lv_at hl 1 rfl) ?_
    refine lv_imul hx hb dX4_does_109 ?_
    refine lv_iload hx hb dX4_does_110 (lv_at hl 3 rfl) ?_
    refine lv_iadd hx hb dX4_does_112 ?_
    obtain ⟨b13, hq⟩ := k_if hq
    refine va_iald hx hb hK hP 22 0 (f := (M12.2.1 23)) rfl rfl (k_in b13.1 b13.2) dX4_does_113 ?_
    refine lv_if_ne (tgt := 341) hx hb dX4_does_114 (by decide) (fun c14 => ?_) (fun c14 => ?_)
    · skip
      rw [if_neg c14] at hq
      exact B341  v1 v3 v6 M12 ad _ _ _ hq (by show M0.2.2 ≤ M12.2.2 ∧ M12.2.2 ≤ 2048000; omega) hP hD hS (lv_sub hl [0, 1, 2, 4] rfl)
    · skip
      rw [if_pos c14] at hq
      refine lv_aload_n hx hb dX4_does_117 rfl (lv_at hl 0 rfl) ?_
      refine va_get (D := D) (ci := 4) (v := .ref (ad 23)) (C := RX4) (T := TX4) (N := 39) hx hb hts kin_X4_does_X4 hown hK hP 0 rfl rfl 23 (by decide) (hts _ kw_X4_does__fieldLink_RX4_74_ActHouseModel_holds_I_) (fun _ h9 => h9) rfl dX4_does_118 ?_
      refine lv_bipush (v := 24) hx hb dX4_does_121 (by decide) ?_
      refine lv_iload_n hx hb dX4_does_123 rfl (lv_at hl 1 rfl) ?_
      refine lv_imul hx hb dX4_does_124 ?_
      refine lv_iload hx hb dX4_does_125 (lv_at hl 3 rfl) ?_
      refine lv_iadd hx hb dX4_does_127 ?_
      refine lv_iconst (v := 1) hx hb dX4_does_128 (by decide) ?_
      refine va_iast hx hb hK hP hD hS 22 0 (f := (M12.2.1 23)) rfl rfl (x := 1) (k_in b13.1 b13.2) dX4_does_129 (fun H locs hP hD hS => ?_)
      obtain ⟨M28, eM28, hg28, hq⟩ := k_lA hq
      rw [mW_A23, ← eM28] at hP hD
      have hP : va_P D vwCl (mW cI cZ h ad M28) _ := hP
      have hD : va_D A (mW cI cZ h ad M28) := hD
      refine W.widen (k := ((M28.2.2 - M0.2.2) / 4000)) (n := (2 * (M28.2.2 - M0.2.2))) (by omega) (by omega) ?_
      refine lv_goto (tgt := 341) hx hb dX4_does_130 (by decide) ?_
      exact B341  v1 v3 v6 M28 ad _ _ _ hq (by show M0.2.2 ≤ M28.2.2 ∧ M28.2.2 ≤ 2048000; omega) hP hD hS (lv_sub hl [0, 1, 2, 4] rfl)
  have B73 : ∀ (v1 : Int32) (v3 : Int32) (v4 : Int32) (v6 : Int32)  (M : MS) (ad : Nat → Nat) (H : Heap) (locs : List Loc) (ls : Array Slot), f_X4_does_73 v1 v3 v4 v6 M = some (r', M') → (M0.2.2 ≤ M.2.2 ∧ M.2.2 ≤ 2048000) → va_P D vwCl (mW cI cZ h ad M) H → va_D A (mW cI cZ h ad M) → va_S A s.heap H locs → lv_has ls 7 [(0, .ref h), (1, .int v1), (3, .int v3), (4, .int v4), (6, .int v6)] → W p l e (headSpec wsX4_does ({ frames := 3, cells := (2048000 - M0.2.2) / 4000, slots := 2 * (2048000 - M0.2.2), locals := 73 })).room s m ([.ref h, .int x1] : List Value).toArray below meth c H locs (((M.2.2 - M0.2.2) / 4000)) ((2 * (M.2.2 - M0.2.2))) Q (F0 m 73 ls []) := by
    intro v1 v3 v4 v6  M ad H locs ls hq hg hP hD hS hl
    rw [f_X4_does_73] at hq
    refine lv_aload_n hx hb dX4_does_73 rfl (lv_at hl 0 rfl) ?_
    refine va_get (D := D) (ci := 4) (v := .ref (ad 15)) (C := RX4) (T := TX4) (N := 39) hx hb hts kin_X4_does_X4 hown hK hP 0 rfl rfl 15 (by decide) (hts _ kw_X4_does__fieldLink_RX4_49_ActHouseModel_register_I_) (fun _ h9 => h9) rfl dX4_does_74 ?_
    refine lv_iload_n hx hb dX4_does_77 rfl (lv_at hl 1 rfl) ?_
    refine lv_aload_n hx hb dX4_does_78 rfl (lv_at hl 0 rfl) ?_
    refine lv_iload_n hx hb dX4_does_79 rfl (lv_at hl 1 rfl) ?_
    refine lv_iload hx hb dX4_does_80 (lv_at hl 3 rfl) ?_
    obtain ⟨q9, M9, h9, hq⟩ := k_bd hq
    have hFc := k_free hD hS hA
    refine va_calli (va_runV (As := [.int v1, .int v4]) (rest := [.int v1, .ref (ad 15)]) ⟨hx, hb, hml, hown, hts⟩ (c_X4_seen (l := l) (D := D) (cI := cI) (cZ := cZ) (h := h) (ad := ad)  (hf := h9)) (cwV 2 hts gX4_does_X4_seen rfl rfl rfl (by decide +kernel) ⟨Nat.le_of_ble_eq_true rfl, Nat.le_of_ble_eq_true rfl⟩) ⟨k_blind, va_recv hK hP (ci := 4) (q0 := 0) rfl rfl, fun U hU hW => ⟨rfl, k_pre hU hW hP hK hD⟩⟩ rfl rfl hl.1 rfl (lv_room (Nat.le_of_ble_eq_true rfl)) dX4_does_82 ⟨by show (M.2.2 - M0.2.2) / 4000 + 0 ≤ (2048000 - M0.2.2) / 4000; omega, by show 2 * (M.2.2 - M0.2.2) + 0 ≤ 2 * (2048000 - M0.2.2); omega⟩) hS (fun q _ h => hFc q h) hFc (fun r9 u t H1 locs ht hvm hw hB hz1 hk1 hS => ?_)
    obtain ⟨rfl, rfl, hg9⟩ := hw
    have hg9 : M9.2.2 = M.2.2 := hg9
    refine W.widen (k := ((M9.2.2 - M0.2.2) / 4000)) (n := (2 * (M9.2.2 - M0.2.2))) (by omega) (by omega) ?_
    obtain ⟨hP1, hK1, hD1⟩ := hB
    rw [ht] at hP1
    have hP := hP1
    have hD := k_weak hD1 hFc
    generalize H1 = H at hP hS ⊢
    have hP : va_P D vwCl (mW cI cZ h ad M9) _ := hP
    have hD : va_D A (mW cI cZ h ad M9) := hD
    refine lv_iload_n hx hb dX4_does_85 rfl (lv_at hl 2 rfl) ?_
    refine lv_iconst (v := 4) hx hb dX4_does_86 (by decide) ?_
    refine lv_icmp_ne (tgt := 99) hx hb dX4_does_87 (by decide) (fun c10 => ?_) (fun c10 => ?_)
    · skip
      rw [if_neg c10] at hq
      refine lv_iconst (v := 0) hx hb dX4_does_99 (by decide) ?_
      exact B100  v1 v3 v4 v6 (0 : Int32) r9 v1 M9 ad _ _ _ hq (by show M0.2.2 ≤ M9.2.2 ∧ M9.2.2 ≤ 2048000; omega) hP hD hS (lv_sub hl [0, 1, 2, 3, 4] rfl)
    · skip
      rw [if_pos c10] at hq
      refine lv_aload_n hx hb dX4_does_90 rfl (lv_at hl 0 rfl) ?_
      refine va_get (D := D) (ci := 4) (v := .ref (ad 15)) (C := RX4) (T := TX4) (N := 39) hx hb hts kin_X4_does_X4 hown hK hP 0 rfl rfl 15 (by decide) (hts _ kw_X4_does__fieldLink_RX4_49_ActHouseModel_register_I_) (fun _ h9 => h9) rfl dX4_does_91 ?_
      refine lv_iload_n hx hb dX4_does_94 rfl (lv_at hl 1 rfl) ?_
      obtain ⟨b29, hq⟩ := k_if hq
      refine va_iald hx hb hK hP 14 0 (f := (M9.2.1 15)) rfl rfl (k_in b29.1 b29.2) dX4_does_95 ?_
      refine lv_goto (tgt := 100) hx hb dX4_does_96 (by decide) ?_
      exact B100  v1 v3 v4 v6 ((M9.2.1 15) v1.toNatClampNeg) r9 v1 M9 ad _ _ _ hq (by show M0.2.2 ≤ M9.2.2 ∧ M9.2.2 ≤ 2048000; omega) hP hD hS (lv_sub hl [0, 1, 2, 3, 4] rfl)
  have B339 : ∀ (v1 : Int32) (v3 : Int32) (s0 : Int32)  (M : MS) (ad : Nat → Nat) (H : Heap) (locs : List Loc) (ls : Array Slot), f_X4_does_339 v1 v3 s0 M = some (r', M') → (M0.2.2 ≤ M.2.2 ∧ M.2.2 ≤ 2048000) → va_P D vwCl (mW cI cZ h ad M) H → va_D A (mW cI cZ h ad M) → va_S A s.heap H locs → lv_has ls 7 [(0, .ref h), (1, .int v1), (3, .int v3)] → W p l e (headSpec wsX4_does ({ frames := 3, cells := (2048000 - M0.2.2) / 4000, slots := 2 * (2048000 - M0.2.2), locals := 73 })).room s m ([.ref h, .int x1] : List Value).toArray below meth c H locs (((M.2.2 - M0.2.2) / 4000)) ((2 * (M.2.2 - M0.2.2))) Q (F0 m 339 ls [.int s0]) := by
    intro v1 v3 s0  M ad H locs ls hq hg hP hD hS hl
    rw [f_X4_does_339] at hq
    refine lv_istore (lv' := [(6, .int s0), (0, .ref h), (1, .int v1), (3, .int v3)]) hx hb dX4_does_339 hl (by decide) rfl (fun ls hl => ?_)
    exact B341  v1 v3 s0 M ad _ _ _ hq (by show M0.2.2 ≤ M.2.2 ∧ M.2.2 ≤ 2048000; omega) hP hD hS (lv_sub hl [1, 2, 3, 0] rfl)
  have B276 : ∀ (v1 : Int32) (v3 : Int32) (v6 : Int32) (s0 : Int32) (s1 : Int32) (s2 : Int32)  (M : MS) (ad : Nat → Nat) (H : Heap) (locs : List Loc) (ls : Array Slot), f_X4_does_276 v1 v3 v6 s0 s1 s2 M = some (r', M') → (M0.2.2 ≤ M.2.2 ∧ M.2.2 ≤ 2048000) → va_P D vwCl (mW cI cZ h ad M) H → va_D A (mW cI cZ h ad M) → va_S A s.heap H locs → lv_has ls 7 [(0, .ref h), (1, .int v1), (3, .int v3), (6, .int v6)] → W p l e (headSpec wsX4_does ({ frames := 3, cells := (2048000 - M0.2.2) / 4000, slots := 2 * (2048000 - M0.2.2), locals := 73 })).room s m ([.ref h, .int x1] : List Value).toArray below meth c H locs (((M.2.2 - M0.2.2) / 4000)) ((2 * (M.2.2 - M0.2.2))) Q (F0 m 276 ls [.int s0, .int s1, .int s2, .ref (ad 26)]) := by
    intro v1 v3 v6 s0 s1 s2  M ad H locs ls hq hg hP hD hS hl
    rw [f_X4_does_276] at hq
    refine lv_iadd hx hb dX4_does_276 ?_
    obtain ⟨b44, hq⟩ := k_if hq
    refine va_iast hx hb hK hP hD hS 25 0 (f := (M.2.1 26)) rfl rfl (x := (s1 + s0)) (k_in b44.1 b44.2) dX4_does_277 (fun H locs hP hD hS => ?_)
    obtain ⟨M45, eM45, hg45, hq⟩ := k_lA hq
    rw [mW_A26, ← eM45] at hP hD
    have hP : va_P D vwCl (mW cI cZ h ad M45) _ := hP
    have hD : va_D A (mW cI cZ h ad M45) := hD
    refine W.widen (k := ((M45.2.2 - M0.2.2) / 4000)) (n := (2 * (M45.2.2 - M0.2.2))) (by omega) (by omega) ?_
    refine lv_goto (tgt := 341) hx hb dX4_does_278 (by decide) ?_
    exact B341  v1 v3 v6 M45 ad _ _ _ hq (by show M0.2.2 ≤ M45.2.2 ∧ M45.2.2 ≤ 2048000; omega) hP hD hS (lv_sub hl [0, 1, 2, 3] rfl)
  have B50 : ∀ (v1 : Int32) (v3 : Int32) (v4 : Int32) (v5 : Int32) (s0 : Int32) (s1 : Int32)  (M : MS) (ad : Nat → Nat) (H : Heap) (locs : List Loc) (ls : Array Slot), f_X4_does_50 v1 v3 v4 v5 s0 s1 M = some (r', M') → (M0.2.2 ≤ M.2.2 ∧ M.2.2 ≤ 2048000) → va_P D vwCl (mW cI cZ h ad M) H → va_D A (mW cI cZ h ad M) → va_S A s.heap H locs → lv_has ls 7 [(0, .ref h), (1, .int v1), (3, .int v3), (4, .int v4), (5, .int v5)] → W p l e (headSpec wsX4_does ({ frames := 3, cells := (2048000 - M0.2.2) / 4000, slots := 2 * (2048000 - M0.2.2), locals := 73 })).room s m ([.ref h, .int x1] : List Value).toArray below meth c H locs (((M.2.2 - M0.2.2) / 4000)) ((2 * (M.2.2 - M0.2.2))) Q (F0 m 50 ls [.int s0, .int s1, .ref (ad 16)]) := by
    intro v1 v3 v4 v5 s0 s1  M ad H locs ls hq hg hP hD hS hl
    rw [f_X4_does_50] at hq
    obtain ⟨b4, hq⟩ := k_if hq
    refine va_zast hx hb hK hP hD hS 15 1 (f := (M.2.1 16)) rfl rfl (x := s0) (k_in b4.1 b4.2) dX4_does_50 (fun H locs hP hD hS => ?_)
    obtain ⟨M5, eM5, hg5, hq⟩ := k_lA hq
    rw [mW_A16, k_nb, ← eM5] at hP hD
    have hP : va_P D vwCl (mW cI cZ h ad M5) _ := hP
    have hD : va_D A (mW cI cZ h ad M5) := hD
    refine W.widen (k := ((M5.2.2 - M0.2.2) / 4000)) (n := (2 * (M5.2.2 - M0.2.2))) (by omega) (by omega) ?_
    refine lv_aload_n hx hb dX4_does_51 rfl (lv_at hl 0 rfl) ?_
    refine va_get (D := D) (ci := 4) (v := .ref (ad 16)) (C := RX4) (T := TX4) (N := 39) hx hb hts kin_X4_does_X4 hown hK hP 0 rfl rfl 16 (by decide) (hts _ kw_X4_does__fieldLink_RX4_52_ActHouseModel_isHeld_Z_) (fun _ h9 => h9) rfl dX4_does_52 ?_
    refine lv_iload_n hx hb dX4_does_55 rfl (lv_at hl 1 rfl) ?_
    obtain ⟨b6, hq⟩ := k_if hq
    refine va_zald hx hb hK hP 15 1 (f := (M5.2.1 16)) rfl rfl (k_in b6.1 b6.2) dX4_does_56 ?_
    refine lv_if_eq (tgt := 61) hx hb dX4_does_57 (by decide) (fun c7 => ?_) (fun c7 => ?_)
    · skip
      rw [if_pos c7] at hq
      refine lv_iconst (v := 0) hx hb dX4_does_61 (by decide) ?_
      refine lv_istore (lv' := [(6, .int 0), (0, .ref h), (1, .int v1), (3, .int v3), (4, .int v4), (5, .int v5)]) hx hb dX4_does_62 hl (by decide) rfl (fun ls hl => ?_)
      refine lv_iload_n hx hb dX4_does_64 rfl (lv_at hl 3 rfl) ?_
      refine lv_if_eq (tgt := 73) hx hb dX4_does_65 (by decide) (fun c8 => ?_) (fun c8 => ?_)
      · skip
        rw [if_pos c8] at hq
        exact B73  v1 v3 v4 (0 : Int32) M5 ad _ _ _ hq (by show M0.2.2 ≤ M5.2.2 ∧ M5.2.2 ≤ 2048000; omega) hP hD hS (lv_sub hl [1, 2, 3, 4, 0] rfl)
      · skip
        rw [if_neg c8] at hq
        refine lv_iload_n hx hb dX4_does_68 rfl (lv_at hl 3 rfl) ?_
        refine lv_iconst (v := 4) hx hb dX4_does_69 (by decide) ?_
        refine lv_icmp_ne (tgt := 133) hx hb dX4_does_70 (by decide) (fun c30 => ?_) (fun c30 => ?_)
        · skip
          rw [if_neg c30] at hq
          refine lv_iload_n hx hb dX4_does_133 rfl (lv_at hl 3 rfl) ?_
          refine lv_iconst (v := 1) hx hb dX4_does_134 (by decide) ?_
          refine lv_icmp_ne (tgt := 152) hx hb dX4_does_135 (by decide) (fun c31 => ?_) (fun c31 => ?_)
          · skip
            rw [if_neg c31] at hq
            refine lv_iload_n hx hb dX4_does_152 rfl (lv_at hl 3 rfl) ?_
            refine lv_iconst (v := 2) hx hb dX4_does_153 (by decide) ?_
            refine lv_icmp_ne (tgt := 174) hx hb dX4_does_154 (by decide) (fun c32 => ?_) (fun c32 => ?_)
            · skip
              rw [if_neg c32] at hq
              refine lv_iload_n hx hb dX4_does_174 rfl (lv_at hl 3 rfl) ?_
              refine lv_iconst (v := 3) hx hb dX4_does_175 (by decide) ?_
              refine lv_icmp_ne (tgt := 221) hx hb dX4_does_176 (by decide) (fun c33 => ?_) (fun c33 => ?_)
              · skip
                rw [if_neg c33] at hq
                refine lv_iload_n hx hb dX4_does_221 rfl (lv_at hl 3 rfl) ?_
                refine lv_bipush (v := 6) hx hb dX4_does_222 (by decide) ?_
                refine lv_icmp_ne (tgt := 281) hx hb dX4_does_224 (by decide) (fun c34 => ?_) (fun c34 => ?_)
                · skip
                  rw [if_neg c34] at hq
                  refine lv_iload_n hx hb dX4_does_281 rfl (lv_at hl 3 rfl) ?_
                  refine lv_bipush (v := 7) hx hb dX4_does_282 (by decide) ?_
                  refine lv_icmp_ne (tgt := 318) hx hb dX4_does_284 (by decide) (fun c35 => ?_) (fun c35 => ?_)
                  · skip
                    rw [if_neg c35] at hq
                    refine lv_iload_n hx hb dX4_does_318 rfl (lv_at hl 3 rfl) ?_
                    refine lv_bipush (v := 7) hx hb dX4_does_319 (by decide) ?_
                    refine lv_icmp_le (tgt := 341) hx hb dX4_does_321 (by decide) (fun c36 => ?_) (fun c36 => ?_)
                    · skip
                      rw [if_pos c36] at hq
                      exact B341  v1 v3 (0 : Int32) M5 ad _ _ _ hq (by show M0.2.2 ≤ M5.2.2 ∧ M5.2.2 ≤ 2048000; omega) hP hD hS (lv_sub hl [1, 2, 3, 0] rfl)
                    · skip
                      rw [if_neg c36] at hq
                      refine lv_aload_n hx hb dX4_does_324 rfl (lv_at hl 1 rfl) ?_
                      refine va_get (D := D) (ci := 4) (v := .ref (ad 15)) (C := RX4) (T := TX4) (N := 39) hx hb hts kin_X4_does_X4 hown hK hP 0 rfl rfl 15 (by decide) (hts _ kw_X4_does__fieldLink_RX4_49_ActHouseModel_register_I_) (fun _ h9 => h9) rfl dX4_does_325 ?_
                      refine lv_iload_n hx hb dX4_does_328 rfl (lv_at hl 2 rfl) ?_
                      refine va_iald hx hb hK hP 14 0 (f := (M5.2.1 15)) rfl rfl (k_in b6.1 b6.2) dX4_does_329 ?_
                      refine lv_if_ge (tgt := 338) hx hb dX4_does_330 (by decide) (fun c37 => ?_) (fun c37 => ?_)
                      · skip
                        rw [if_pos c37] at hq
                        refine lv_iconst (v := 0) hx hb dX4_does_338 (by decide) ?_
                        exact B339  v1 v3 (0 : Int32) M5 ad _ _ _ hq (by show M0.2.2 ≤ M5.2.2 ∧ M5.2.2 ≤ 2048000; omega) hP hD hS (lv_sub hl [1, 2, 3] rfl)
                      · skip
                        rw [if_neg c37] at hq
                        refine lv_iload hx hb dX4_does_333 (lv_at hl 5 rfl) ?_
                        refine lv_goto (tgt := 339) hx hb dX4_does_335 (by decide) ?_
                        exact B339  v1 v3 v5 M5 ad _ _ _ hq (by show M0.2.2 ≤ M5.2.2 ∧ M5.2.2 ≤ 2048000; omega) hP hD hS (lv_sub hl [1, 2, 3] rfl)
                  · skip
                    rw [if_pos c35] at hq
                    refine lv_aload_n hx hb dX4_does_287 rfl (lv_at hl 1 rfl) ?_
                    refine va_get (D := D) (ci := 4) (v := .ref (ad 27)) (C := RX4) (T := TX4) (N := 39) hx hb hts kin_X4_does_X4 hown hK hP 0 rfl rfl 27 (by decide) (hts _ kw_X4_does__fieldLink_RX4_86_ActHouseModel_queued_I_) (fun _ h9 => h9) rfl dX4_does_288 ?_
                    refine lv_bipush (v := 12) hx hb dX4_does_291 (by decide) ?_
                    refine lv_iload_n hx hb dX4_does_293 rfl (lv_at hl 2 rfl) ?_
                    refine lv_imul hx hb dX4_does_294 ?_
                    refine lv_aload_n hx hb dX4_does_295 rfl (lv_at hl 1 rfl) ?_
                    refine va_get (D := D) (ci := 4) (v := .ref (ad 28)) (C := RX4) (T := TX4) (N := 39) hx hb hts kin_X4_does_X4 hown hK hP 0 rfl rfl 28 (by decide) (hts _ kw_X4_does__fieldLink_RX4_89_ActHouseModel_queuedMany_I_) (fun _ h9 => h9) rfl dX4_does_296 ?_
                    refine lv_iload_n hx hb dX4_does_299 rfl (lv_at hl 2 rfl) ?_
                    refine va_iald hx hb hK hP 27 0 (f := (M5.2.1 28)) rfl rfl (k_in b6.1 b6.2) dX4_does_300 ?_
                    refine lv_iadd hx hb dX4_does_301 ?_
                    refine lv_iload hx hb dX4_does_302 (lv_at hl 4 rfl) ?_
                    obtain ⟨b38, hq⟩ := k_if hq
                    refine va_iast hx hb hK hP hD hS 26 0 (f := (M5.2.1 27)) rfl rfl (x := v4) (k_in b38.1 b38.2) dX4_does_304 (fun H locs hP hD hS => ?_)
                    obtain ⟨M39, eM39, hg39, hq⟩ := k_lA hq
                    rw [mW_A27, ← eM39] at hP hD
                    have hP : va_P D vwCl (mW cI cZ h ad M39) _ := hP
                    have hD : va_D A (mW cI cZ h ad M39) := hD
                    refine W.widen (k := ((M39.2.2 - M0.2.2) / 4000)) (n := (2 * (M39.2.2 - M0.2.2))) (by omega) (by omega) ?_
                    refine lv_aload_n hx hb dX4_does_305 rfl (lv_at hl 1 rfl) ?_
                    refine va_get (D := D) (ci := 4) (v := .ref (ad 28)) (C := RX4) (T := TX4) (N := 39) hx hb hts kin_X4_does_X4 hown hK hP 0 rfl rfl 28 (by decide) (hts _ kw_X4_does__fieldLink_RX4_89_ActHouseModel_queuedMany_I_) (fun _ h9 => h9) rfl dX4_does_306 ?_
                    refine lv_iload_n hx hb dX4_does_309 rfl (lv_at hl 2 rfl) ?_
                    refine lv_dup2_11 hx hb dX4_does_310 rfl rfl ?_
                    refine va_iald hx hb hK hP 27 0 (f := (M39.2.1 28)) rfl rfl (k_in b6.1 b6.2) dX4_does_311 ?_
                    refine lv_iconst (v := 1) hx hb dX4_does_312 (by decide) ?_
                    refine lv_iadd hx hb dX4_does_313 ?_
                    refine va_iast hx hb hK hP hD hS 27 0 (f := (M39.2.1 28)) rfl rfl (x := (((M39.2.1 28) v1.toNatClampNeg) + 1)) (k_in b6.1 b6.2) dX4_does_314 (fun H locs hP hD hS => ?_)
                    obtain ⟨M40, eM40, hg40, hq⟩ := k_lA hq
                    rw [mW_A28, ← eM40] at hP hD
                    have hP : va_P D vwCl (mW cI cZ h ad M40) _ := hP
                    have hD : va_D A (mW cI cZ h ad M40) := hD
                    refine W.widen (k := ((M40.2.2 - M0.2.2) / 4000)) (n := (2 * (M40.2.2 - M0.2.2))) (by omega) (by omega) ?_
                    refine lv_goto (tgt := 341) hx hb dX4_does_315 (by decide) ?_
                    exact B341  v1 v3 (0 : Int32) M40 ad _ _ _ hq (by show M0.2.2 ≤ M40.2.2 ∧ M40.2.2 ≤ 2048000; omega) hP hD hS (lv_sub hl [1, 2, 3, 0] rfl)
                · skip
                  rw [if_pos c34] at hq
                  refine lv_aload_n hx hb dX4_does_227 rfl (lv_at hl 1 rfl) ?_
                  refine va_get (D := D) (ci := 4) (v := .ref (ad 25)) (C := RX4) (T := TX4) (N := 39) hx hb hts kin_X4_does_X4 hown hK hP 0 rfl rfl 25 (by decide) (hts _ kw_X4_does__fieldLink_RX4_80_ActHouseModel_gives_I_) (fun _ h9 => h9) rfl dX4_does_228 ?_
                  refine lv_bipush (v := 8) hx hb dX4_does_231 (by decide) ?_
                  refine lv_iload_n hx hb dX4_does_233 rfl (lv_at hl 2 rfl) ?_
                  refine lv_imul hx hb dX4_does_234 ?_
                  refine lv_iload hx hb dX4_does_235 (lv_at hl 4 rfl) ?_
                  refine lv_iadd hx hb dX4_does_237 ?_
                  refine lv_dup2_11 hx hb dX4_does_238 rfl rfl ?_
                  obtain ⟨b41, hq⟩ := k_if hq
                  refine va_iald hx hb hK hP 24 0 (f := (M5.2.1 25)) rfl rfl (k_in b41.1 b41.2) dX4_does_239 ?_
                  refine lv_iload hx hb dX4_does_240 (lv_at hl 5 rfl) ?_
                  refine lv_bipush (v := 50) hx hb dX4_does_242 (by decide) ?_
                  refine lv_isub hx hb dX4_does_244 ?_
                  refine lv_iadd hx hb dX4_does_245 ?_
                  refine va_iast hx hb hK hP hD hS 24 0 (f := (M5.2.1 25)) rfl rfl (x := (((M5.2.1 25) ((8 * v1) + v4).toNatClampNeg) + (v5 - 50))) (k_in b41.1 b41.2) dX4_does_246 (fun H locs hP hD hS => ?_)
                  obtain ⟨M42, eM42, hg42, hq⟩ := k_lA hq
                  rw [mW_A25, ← eM42] at hP hD
                  have hP : va_P D vwCl (mW cI cZ h ad M42) _ := hP
                  have hD : va_D A (mW cI cZ h ad M42) := hD
                  refine W.widen (k := ((M42.2.2 - M0.2.2) / 4000)) (n := (2 * (M42.2.2 - M0.2.2))) (by omega) (by omega) ?_
                  refine lv_aload_n hx hb dX4_does_247 rfl (lv_at hl 1 rfl) ?_
                  refine va_get (D := D) (ci := 4) (v := .ref (ad 26)) (C := RX4) (T := TX4) (N := 39) hx hb hts kin_X4_does_X4 hown hK hP 0 rfl rfl 26 (by decide) (hts _ kw_X4_does__fieldLink_RX4_83_ActHouseModel_below_I_) (fun _ h9 => h9) rfl dX4_does_248 ?_
                  refine lv_bipush (v := 8) hx hb dX4_does_251 (by decide) ?_
                  refine lv_iload_n hx hb dX4_does_253 rfl (lv_at hl 2 rfl) ?_
                  refine lv_imul hx hb dX4_does_254 ?_
                  refine lv_iload hx hb dX4_does_255 (lv_at hl 4 rfl) ?_
                  refine lv_iadd hx hb dX4_does_257 ?_
                  refine lv_dup2_11 hx hb dX4_does_258 rfl rfl ?_
                  refine va_iald hx hb hK hP 25 0 (f := (M42.2.1 26)) rfl rfl (k_in b41.1 b41.2) dX4_does_259 ?_
                  refine lv_iload hx hb dX4_does_260 (lv_at hl 5 rfl) ?_
                  refine lv_bipush (v := 50) hx hb dX4_does_262 (by decide) ?_
                  refine lv_icmp_ge (tgt := 275) hx hb dX4_does_264 (by decide) (fun c43 => ?_) (fun c43 => ?_)
                  · skip
                    rw [if_pos c43] at hq
                    refine lv_iconst (v := 0) hx hb dX4_does_275 (by decide) ?_
                    exact B276  v1 v3 (0 : Int32) (0 : Int32) ((M42.2.1 26) ((8 * v1) + v4).toNatClampNeg) ((8 * v1) + v4) M42 ad _ _ _ hq (by show M0.2.2 ≤ M42.2.2 ∧ M42.2.2 ≤ 2048000; omega) hP hD hS (lv_sub hl [1, 2, 3, 0] rfl)
                  · skip
                    rw [if_neg c43] at hq
                    refine lv_iload hx hb dX4_does_267 (lv_at hl 5 rfl) ?_
                    refine lv_bipush (v := 50) hx hb dX4_does_269 (by decide) ?_
                    refine lv_isub hx hb dX4_does_271 ?_
                    refine lv_goto (tgt := 276) hx hb dX4_does_272 (by decide) ?_
                    exact B276  v1 v3 (0 : Int32) (v5 - 50) ((M42.2.1 26) ((8 * v1) + v4).toNatClampNeg) ((8 * v1) + v4) M42 ad _ _ _ hq (by show M0.2.2 ≤ M42.2.2 ∧ M42.2.2 ≤ 2048000; omega) hP hD hS (lv_sub hl [1, 2, 3, 0] rfl)
              · skip
                rw [if_pos c33] at hq
                refine lv_aload_n hx hb dX4_does_179 rfl (lv_at hl 1 rfl) ?_
                refine va_get (D := D) (ci := 4) (v := .ref (ad 23)) (C := RX4) (T := TX4) (N := 39) hx hb hts kin_X4_does_X4 hown hK hP 0 rfl rfl 23 (by decide) (hts _ kw_X4_does__fieldLink_RX4_74_ActHouseModel_holds_I_) (fun _ h9 => h9) rfl dX4_does_180 ?_
                refine lv_bipush (v := 24) hx hb dX4_does_183 (by decide) ?_
                refine lv_iload_n hx hb dX4_does_185 rfl (lv_at hl 2 rfl) ?_
                refine lv_imul hx hb dX4_does_186 ?_
                refine lv_iload hx hb dX4_does_187 (lv_at hl 4 rfl) ?_
                refine lv_iadd hx hb dX4_does_189 ?_
                refine lv_iconst (v := 2) hx hb dX4_does_190 (by decide) ?_
                obtain ⟨b46, hq⟩ := k_if hq
                refine va_iast hx hb hK hP hD hS 22 0 (f := (M5.2.1 23)) rfl rfl (x := 2) (k_in b46.1 b46.2) dX4_does_191 (fun H locs hP hD hS => ?_)
                obtain ⟨M47, eM47, hg47, hq⟩ := k_lA hq
                rw [mW_A23, ← eM47] at hP hD
                have hP : va_P D vwCl (mW cI cZ h ad M47) _ := hP
                have hD : va_D A (mW cI cZ h ad M47) := hD
                refine W.widen (k := ((M47.2.2 - M0.2.2) / 4000)) (n := (2 * (M47.2.2 - M0.2.2))) (by omega) (by omega) ?_
                refine lv_aload_n hx hb dX4_does_192 rfl (lv_at hl 1 rfl) ?_
                refine va_get (D := D) (ci := 4) (v := .ref (ad 24)) (C := RX4) (T := TX4) (N := 39) hx hb hts kin_X4_does_X4 hown hK hP 0 rfl rfl 24 (by decide) (hts _ kw_X4_does__fieldLink_RX4_77_ActHouseModel_writes_I_) (fun _ h9 => h9) rfl dX4_does_193 ?_
                refine lv_bipush (v := 24) hx hb dX4_does_196 (by decide) ?_
                refine lv_iload_n hx hb dX4_does_198 rfl (lv_at hl 2 rfl) ?_
                refine lv_imul hx hb dX4_does_199 ?_
                refine lv_iload hx hb dX4_does_200 (lv_at hl 4 rfl) ?_
                refine lv_iadd hx hb dX4_does_202 ?_
                refine lv_aload_n hx hb dX4_does_203 rfl (lv_at hl 1 rfl) ?_
                refine va_get (D := D) (ci := 4) (v := .ref (ad 15)) (C := RX4) (T := TX4) (N := 39) hx hb hts kin_X4_does_X4 hown hK hP 0 rfl rfl 15 (by decide) (hts _ kw_X4_does__fieldLink_RX4_49_ActHouseModel_register_I_) (fun _ h9 => h9) rfl dX4_does_204 ?_
                refine lv_iload_n hx hb dX4_does_207 rfl (lv_at hl 2 rfl) ?_
                refine va_iald hx hb hK hP 14 0 (f := (M47.2.1 15)) rfl rfl (k_in b6.1 b6.2) dX4_does_208 ?_
                refine va_iast hx hb hK hP hD hS 23 0 (f := (M47.2.1 24)) rfl rfl (x := ((M47.2.1 15) v1.toNatClampNeg)) (k_in b46.1 b46.2) dX4_does_209 (fun H locs hP hD hS => ?_)
                obtain ⟨M48, eM48, hg48, hq⟩ := k_lA hq
                rw [mW_A24, ← eM48] at hP hD
                have hP : va_P D vwCl (mW cI cZ h ad M48) _ := hP
                have hD : va_D A (mW cI cZ h ad M48) := hD
                refine W.widen (k := ((M48.2.2 - M0.2.2) / 4000)) (n := (2 * (M48.2.2 - M0.2.2))) (by omega) (by omega) ?_
                refine lv_aload_n hx hb dX4_does_210 rfl (lv_at hl 1 rfl) ?_
                refine lv_iconst (v := 1) hx hb dX4_does_211 (by decide) ?_
                refine lv_iload_n hx hb dX4_does_212 rfl (lv_at hl 2 rfl) ?_
                refine lv_iload hx hb dX4_does_213 (lv_at hl 4 rfl) ?_
                obtain ⟨r49, M49, h49, hq⟩ := k_bd hq
                have hFc := k_free hD hS hA
                refine k_facts (fun hn1 hn2 hn3 => ?_)
                refine va_callv (va_runV (As := [.int 1, .int v1, .int v4]) (rest := []) ⟨hx, hb, hml, hown, hts⟩ (c_X4_logs (l := l) (D := D) (cI := cI) (cZ := cZ) (h := h) (ad := ad)  (hg := by show M48.2.2 ≤ 2048000; omega) (hf := h49)) (cwV 3 hts gX4_does_X4_logs rfl rfl rfl (by decide +kernel) ⟨Nat.le_of_ble_eq_true rfl, Nat.le_of_ble_eq_true rfl⟩) ⟨k_blindH, va_recv hK hP (ci := 4) (q0 := 0) rfl rfl, fun U hU hW => ⟨rfl, k_preH hU hW hP hK hD⟩⟩ rfl rfl hl.1 rfl (lv_room (Nat.le_of_ble_eq_true rfl)) dX4_does_215 ⟨by show (M48.2.2 - M0.2.2) / 4000 + (2048000 - M48.2.2) / 4000 ≤ (2048000 - M0.2.2) / 4000; omega, by show 2 * (M48.2.2 - M0.2.2) + 2 * (2048000 - M48.2.2) ≤ 2 * (2048000 - M0.2.2); omega⟩) hS (fun q _ h => hFc q h) hFc (fun u t H1 locs ht hvm hw hB hz1 hk1 hS => ?_)
                obtain ⟨ad, rfl, hg49, hh49⟩ := hw
                have hg49 : M48.2.2 ≤ M49.2.2 := hg49
                obtain ⟨hB, hz2, hz3, hz4⟩ := hB
                rw [ht] at hz2 hz3 hz4
                refine k_tight (k := ((M49.2.2 - M0.2.2) / 4000)) (n := (2 * (M49.2.2 - M0.2.2))) (by omega) (by rw [k_nS_tr hn3.1 hz2]; omega) ?_
                obtain ⟨hP1, hK1, hD1⟩ := hB
                rw [ht] at hP1
                have hP := hP1
                have hD := k_weak hD1 hFc
                generalize H1 = H at hP hS ⊢
                have hP : va_P D vwCl (mW cI cZ h ad M49) _ := hP
                have hD : va_D A (mW cI cZ h ad M49) := hD
                refine lv_goto (tgt := 341) hx hb dX4_does_218 (by decide) ?_
                exact B341  v1 v3 (0 : Int32) M49 ad _ _ _ hq (by show M0.2.2 ≤ M49.2.2 ∧ M49.2.2 ≤ 2048000; omega) hP hD hS (lv_sub hl [1, 2, 3, 0] rfl)
            · skip
              rw [if_pos c32] at hq
              refine lv_aload_n hx hb dX4_does_157 rfl (lv_at hl 1 rfl) ?_
              refine va_get (D := D) (ci := 4) (v := .ref (ad 15)) (C := RX4) (T := TX4) (N := 39) hx hb hts kin_X4_does_X4 hown hK hP 0 rfl rfl 15 (by decide) (hts _ kw_X4_does__fieldLink_RX4_49_ActHouseModel_register_I_) (fun _ h9 => h9) rfl dX4_does_158 ?_
              refine lv_iload_n hx hb dX4_does_161 rfl (lv_at hl 2 rfl) ?_
              refine lv_dup2_11 hx hb dX4_does_162 rfl rfl ?_
              refine va_iald hx hb hK hP 14 0 (f := (M5.2.1 15)) rfl rfl (k_in b6.1 b6.2) dX4_does_163 ?_
              refine lv_iload hx hb dX4_does_164 (lv_at hl 5 rfl) ?_
              refine lv_bipush (v := 50) hx hb dX4_does_166 (by decide) ?_
              refine lv_isub hx hb dX4_does_168 ?_
              refine lv_iadd hx hb dX4_does_169 ?_
              refine va_iast hx hb hK hP hD hS 14 0 (f := (M5.2.1 15)) rfl rfl (x := (((M5.2.1 15) v1.toNatClampNeg) + (v5 - 50))) (k_in b6.1 b6.2) dX4_does_170 (fun H locs hP hD hS => ?_)
              obtain ⟨M50, eM50, hg50, hq⟩ := k_lA hq
              rw [mW_A15, ← eM50] at hP hD
              have hP : va_P D vwCl (mW cI cZ h ad M50) _ := hP
              have hD : va_D A (mW cI cZ h ad M50) := hD
              refine W.widen (k := ((M50.2.2 - M0.2.2) / 4000)) (n := (2 * (M50.2.2 - M0.2.2))) (by omega) (by omega) ?_
              refine lv_goto (tgt := 341) hx hb dX4_does_171 (by decide) ?_
              exact B341  v1 v3 (0 : Int32) M50 ad _ _ _ hq (by show M0.2.2 ≤ M50.2.2 ∧ M50.2.2 ≤ 2048000; omega) hP hD hS (lv_sub hl [1, 2, 3, 0] rfl)
          · skip
            rw [if_pos c31] at hq
            refine lv_aload_n hx hb dX4_does_138 rfl (lv_at hl 1 rfl) ?_
            refine va_get (D := D) (ci := 4) (v := .ref (ad 15)) (C := RX4) (T := TX4) (N := 39) hx hb hts kin_X4_does_X4 hown hK hP 0 rfl rfl 15 (by decide) (hts _ kw_X4_does__fieldLink_RX4_49_ActHouseModel_register_I_) (fun _ h9 => h9) rfl dX4_does_139 ?_
            refine lv_iload_n hx hb dX4_does_142 rfl (lv_at hl 2 rfl) ?_
            refine lv_iload hx hb dX4_does_143 (lv_at hl 5 rfl) ?_
            refine lv_bipush (v := 50) hx hb dX4_does_145 (by decide) ?_
            refine lv_isub hx hb dX4_does_147 ?_
            refine va_iast hx hb hK hP hD hS 14 0 (f := (M5.2.1 15)) rfl rfl (x := (v5 - 50)) (k_in b6.1 b6.2) dX4_does_148 (fun H locs hP hD hS => ?_)
            obtain ⟨M51, eM51, hg51, hq⟩ := k_lA hq
            rw [mW_A15, ← eM51] at hP hD
            have hP : va_P D vwCl (mW cI cZ h ad M51) _ := hP
            have hD : va_D A (mW cI cZ h ad M51) := hD
            refine W.widen (k := ((M51.2.2 - M0.2.2) / 4000)) (n := (2 * (M51.2.2 - M0.2.2))) (by omega) (by omega) ?_
            refine lv_goto (tgt := 341) hx hb dX4_does_149 (by decide) ?_
            exact B341  v1 v3 (0 : Int32) M51 ad _ _ _ hq (by show M0.2.2 ≤ M51.2.2 ∧ M51.2.2 ≤ 2048000; omega) hP hD hS (lv_sub hl [1, 2, 3, 0] rfl)
        · skip
          rw [if_pos c30] at hq
          exact B73  v1 v3 v4 (0 : Int32) M5 ad _ _ _ hq (by show M0.2.2 ≤ M5.2.2 ∧ M5.2.2 ≤ 2048000; omega) hP hD hS (lv_sub hl [1, 2, 3, 4, 0] rfl)
    · skip
      rw [if_neg c7] at hq
      obtain ⟨e2, e3⟩ := k_so hq
      subst hQ
      have hP : va_P D vwCl (mW cI cZ h ad M5) _ := hP
      have hD : va_D A (mW cI cZ h ad M5) := hD
      have hgE := congrArg (fun X : MS => X.2.2) e3
      have hgE : M5.2.2 = M'.2.2 := hgE
      refine k_facts (fun hm1 hm2 hm3 => ?_)
      refine W.widen (k := (2048000 - M0.2.2) / 4000) (n := 2 * (2048000 - M0.2.2)) (by omega) (by omega) ?_
      exact W.vret hx hb hr (fun t ht hW => ⟨⟨(mW cI cZ h ad M5, [(cI, .int), (cZ, .boolean)]), rfl, ⟨ad, (congrArg (fun X : MS => ((mW cI cZ h ad X, [(cI, .int), (cZ, .boolean)]) : va_W × List (ClassId × FieldType))) e3), by omega, by omega⟩, ⟨⟨by rw [ht]; exact hP, va_K.moved hW.alike hK, hD⟩, by rw [ht]; exact hm3, by rw [ht]; omega, by rw [ht]; omega⟩⟩, hS.F ht⟩) hS.2.2 dX4_does_60
  refine W.widen (k := ((M0.2.2 - M0.2.2) / 4000)) (n := (2 * (M0.2.2 - M0.2.2))) (by omega) (by omega) ?_
  have hq := hf
  rw [f_X4_does] at hq
  refine lv_aload_n hx hb dX4_does_0 rfl (lv_at hl 0 rfl) ?_
  refine lv_iload_n hx hb dX4_does_1 rfl (lv_at hl 1 rfl) ?_
  obtain ⟨q1, M1, h1, hq⟩ := k_bd hq
  have hFc := k_free hD hS hA
  refine va_calli (va_runV (As := [.int x1]) (rest := []) ⟨hx, hb, hml, hown, hts⟩ (c_X4_stepOf (l := l) (D := D) (cI := cI) (cZ := cZ) (h := h) (ad := ad)  (hf := h1)) (cwV 1 hts gX4_does_X4_stepOf rfl rfl rfl (by decide +kernel) ⟨Nat.le_of_ble_eq_true rfl, Nat.le_of_ble_eq_true rfl⟩) ⟨k_blind, va_recv hK hP (ci := 4) (q0 := 0) rfl rfl, fun U hU hW => ⟨rfl, k_pre hU hW hP hK hD⟩⟩ rfl rfl hl.1 rfl (lv_room (Nat.le_of_ble_eq_true rfl)) dX4_does_2 ⟨by show (M0.2.2 - M0.2.2) / 4000 + 0 ≤ (2048000 - M0.2.2) / 4000; omega, by show 2 * (M0.2.2 - M0.2.2) + 0 ≤ 2 * (2048000 - M0.2.2); omega⟩) hS (fun q _ h => hFc q h) hFc (fun r1 u t H1 locs ht hvm hw hB hz1 hk1 hS => ?_)
  obtain ⟨rfl, rfl, hg1⟩ := hw
  have hg1 : M1.2.2 = M0.2.2 := hg1
  refine W.widen (k := ((M1.2.2 - M0.2.2) / 4000)) (n := (2 * (M1.2.2 - M0.2.2))) (by omega) (by omega) ?_
  obtain ⟨hP1, hK1, hD1⟩ := hB
  rw [ht] at hP1
  have hP := hP1
  have hD := k_weak hD1 hFc
  generalize H1 = H at hP hS ⊢
  have hP : va_P D vwCl (mW cI cZ h ad M1) _ := hP
  have hD : va_D A (mW cI cZ h ad M1) := hD
  refine lv_istore_n (lv' := [(2, .int r1), (0, .ref h), (1, .int x1)]) hx hb dX4_does_5 rfl hl (by decide) rfl (fun ls hl => ?_)
  refine lv_iload_n hx hb dX4_does_6 rfl (lv_at hl 0 rfl) ?_
  refine lv_sipush (v := 10000) hx hb dX4_does_7 (by decide) ?_
  refine lv_idiv hx hb dX4_does_10 (by decide) ?_
  refine lv_istore_n (lv' := [(3, .int (r1 / 10000)), (2, .int r1), (0, .ref h), (1, .int x1)]) hx hb dX4_does_11 rfl hl (by decide) rfl (fun ls hl => ?_)
  refine lv_iload_n hx hb dX4_does_12 rfl (lv_at hl 1 rfl) ?_
  refine lv_bipush (v := 100) hx hb dX4_does_13 (by decide) ?_
  refine lv_idiv hx hb dX4_does_15 (by decide) ?_
  refine lv_bipush (v := 100) hx hb dX4_does_16 (by decide) ?_
  refine lv_irem hx hb dX4_does_18 (by decide) ?_
  refine lv_istore (lv' := [(4, .int ((r1 / 100) - (r1 / 100) / 100 * 100)), (3, .int (r1 / 10000)), (2, .int r1), (0, .ref h), (1, .int x1)]) hx hb dX4_does_19 hl (by decide) rfl (fun ls hl => ?_)
  refine lv_iload_n hx hb dX4_does_21 rfl (lv_at hl 2 rfl) ?_
  refine lv_bipush (v := 100) hx hb dX4_does_22 (by decide) ?_
  refine lv_irem hx hb dX4_does_24 (by decide) ?_
  refine lv_istore (lv' := [(5, .int (r1 - r1 / 100 * 100)), (4, .int ((r1 / 100) - (r1 / 100) / 100 * 100)), (3, .int (r1 / 10000)), (2, .int r1), (0, .ref h), (1, .int x1)]) hx hb dX4_does_25 hl (by decide) rfl (fun ls hl => ?_)
  refine lv_aload_n hx hb dX4_does_27 rfl (lv_at hl 4 rfl) ?_
  refine va_get (D := D) (ci := 4) (v := .ref (ad 16)) (C := RX4) (T := TX4) (N := 39) hx hb hts kin_X4_does_X4 hown hK hP 0 rfl rfl 16 (by decide) (hts _ kw_X4_does__fieldLink_RX4_52_ActHouseModel_isHeld_Z_) (fun _ h9 => h9) rfl dX4_does_28 ?_
  refine lv_iload_n hx hb dX4_does_31 rfl (lv_at hl 5 rfl) ?_
  refine lv_aload_n hx hb dX4_does_32 rfl (lv_at hl 4 rfl) ?_
  refine lv_iload_n hx hb dX4_does_33 rfl (lv_at hl 5 rfl) ?_
  refine lv_iload_n hx hb dX4_does_34 rfl (lv_at hl 2 rfl) ?_
  refine lv_iload hx hb dX4_does_35 (lv_at hl 1 rfl) ?_
  refine lv_iload hx hb dX4_does_37 (lv_at hl 0 rfl) ?_
  obtain ⟨q2, M2, h2, hq⟩ := k_bd hq
  have hFc := k_free hD hS hA
  refine va_calli (va_runV (As := [.int x1, .int (r1 / 10000), .int ((r1 / 100) - (r1 / 100) / 100 * 100), .int (r1 - r1 / 100 * 100)]) (rest := [.int x1, .ref (ad 16)]) ⟨hx, hb, hml, hown, hts⟩ (c_X4_canDo (l := l) (D := D) (cI := cI) (cZ := cZ) (h := h) (ad := ad)  (hf := h2)) (cwV 4 hts gX4_does_X4_canDo rfl rfl rfl (by decide +kernel) ⟨Nat.le_of_ble_eq_true rfl, Nat.le_of_ble_eq_true rfl⟩) ⟨k_blind, va_recv hK hP (ci := 4) (q0 := 0) rfl rfl, fun U hU hW => ⟨rfl, k_pre hU hW hP hK hD⟩⟩ rfl rfl hl.1 rfl (lv_room (Nat.le_of_ble_eq_true rfl)) dX4_does_39 ⟨by show (M1.2.2 - M0.2.2) / 4000 + 0 ≤ (2048000 - M0.2.2) / 4000; omega, by show 2 * (M1.2.2 - M0.2.2) + 0 ≤ 2 * (2048000 - M0.2.2); omega⟩) hS (fun q _ h => hFc q h) hFc (fun r2 u t H1 locs ht hvm hw hB hz1 hk1 hS => ?_)
  obtain ⟨rfl, rfl, hg2⟩ := hw
  have hg2 : M2.2.2 = M1.2.2 := hg2
  refine W.widen (k := ((M2.2.2 - M0.2.2) / 4000)) (n := (2 * (M2.2.2 - M0.2.2))) (by omega) (by omega) ?_
  obtain ⟨hP1, hK1, hD1⟩ := hB
  rw [ht] at hP1
  have hP := hP1
  have hD := k_weak hD1 hFc
  generalize H1 = H at hP hS ⊢
  have hP : va_P D vwCl (mW cI cZ h ad M2) _ := hP
  have hD : va_D A (mW cI cZ h ad M2) := hD
  refine lv_if_ne (tgt := 49) hx hb dX4_does_42 (by decide) (fun c3 => ?_) (fun c3 => ?_)
  · skip
    rw [if_neg c3] at hq
    refine lv_iconst (v := 0) hx hb dX4_does_49 (by decide) ?_
    exact B50  x1 (r1 / 10000) ((r1 / 100) - (r1 / 100) / 100 * 100) (r1 - r1 / 100 * 100) (0 : Int32) x1 M2 ad _ _ _ hq (by show M0.2.2 ≤ M2.2.2 ∧ M2.2.2 ≤ 2048000; omega) hP hD hS (lv_sub hl [4, 5, 2, 1, 0] rfl)
  · skip
    rw [if_pos c3] at hq
    refine lv_iconst (v := 1) hx hb dX4_does_45 (by decide) ?_
    refine lv_goto (tgt := 50) hx hb dX4_does_46 (by decide) ?_
    exact B50  x1 (r1 / 10000) ((r1 / 100) - (r1 / 100) / 100 * 100) (r1 - r1 / 100 * 100) (1 : Int32) x1 M2 ad _ _ _ hq (by show M0.2.2 ≤ M2.2.2 ∧ M2.2.2 ≤ 2048000; omega) hP hD hS (lv_sub hl [4, 5, 2, 1, 0] rfl)
set_option maxRecDepth 100000 in
theorem kw_X4_breaks__fieldLink_RX4_111_ActHouseModel_acts_I_ : (.fieldLink RX4 111 "ActHouseModel" "acts" "I" : Cond) ∈ wsX4_breaks := by decide +kernel
set_option maxRecDepth 100000 in
theorem kin_X4_breaks_X4 : ∀ w ∈ u_ws RX4 TX4 39, w ∈ wsX4_breaks := by decide +kernel
set_option maxRecDepth 100000 in
theorem kw_X4_breaks__fieldLink_RX4_37_ActHouseModel_state_I_ : (.fieldLink RX4 37 "ActHouseModel" "state" "[I" : Cond) ∈ wsX4_breaks := by decide +kernel
set_option maxRecDepth 100000 in
theorem kw_X4_breaks__fieldLink_RX4_59_ActHouseModel_undone_I_ : (.fieldLink RX4 59 "ActHouseModel" "undone" "[I" : Cond) ∈ wsX4_breaks := by decide +kernel
set_option maxRecDepth 100000 in
theorem kw_X4_breaks__fieldLink_RX4_184_ActHouseModel_rings_I_ : (.fieldLink RX4 184 "ActHouseModel" "rings" "I" : Cond) ∈ wsX4_breaks := by decide +kernel
set_option maxRecDepth 100000 in
theorem kw_X4_breaks__fieldLink_RX4_52_ActHouseModel_isHeld_Z_ : (.fieldLink RX4 52 "ActHouseModel" "isHeld" "[Z" : Cond) ∈ wsX4_breaks := by decide +kernel
set_option maxRecDepth 100000 in
theorem kw_X4_breaks__fieldLink_RX4_65_ActHouseModel_begunIn_I_ : (.fieldLink RX4 65 "ActHouseModel" "begunIn" "[I" : Cond) ∈ wsX4_breaks := by decide +kernel
def f_X4_breaks_68 (K2 : Int32 → MS → Option (Int32 × MS)) (K11 : Int32 → Int32 → MS → Option (Int32 × MS)) (v1 : Int32) (v2 : Int32)  (M : MS) : Option (Int32 × MS) := K11 v1 (v2 + 1) M
def f_X4_breaks_66 (K2 : Int32 → MS → Option (Int32 × MS)) (K11 : Int32 → Int32 → MS → Option (Int32 × MS)) (v2 : Int32)  (M : MS) : Option (Int32 × MS) := f_X4_breaks_68 K2 K11 v2 v2 M
def f_X4_breaks_11 (K2 : Int32 → MS → Option (Int32 × MS)) : Nat → Int32 → Int32 → MS → Option (Int32 × MS)
  | 0, _, _, _ => none
  | k + 1, v1, v2, M => (if (M.1 7) ≤ v2 then (if v1 = (-1) then K2 v1 M else (k_bind (f_X4_logs (4 : Int32) v1 ((-1) : Int32) M) fun r4 M4 => (k_bind (f_X4_clears v1 M4) fun r5 M5 => (if 0 ≤ v1.toInt ∧ v1.toInt < 80 then (k_let (mA M5 11 v1.toNatClampNeg (0 : Int32)) fun M7 => (k_let (mA M7 18 v1.toNatClampNeg (((M7.2.1 18) v1.toNatClampNeg) + 1)) fun M8 => (k_let (mI M8 34 ((M8.1 34) + 1)) fun M9 => K2 v1 M9))) else none)))) else (if 0 ≤ v2.toInt ∧ v2.toInt < 80 then (if ((M.2.1 11) v2.toNatClampNeg) = 1 then (if ((M.2.1 16) v2.toNatClampNeg) = 0 then f_X4_breaks_68 K2 (fun (v1 : Int32) (v2 : Int32) (M : MS) => f_X4_breaks_11 K2 k v1 v2 M) v1 v2 M else (k_bind (f_X4_isInRing v2 M) fun r13 M13 => (if r13 = 0 then f_X4_breaks_68 K2 (fun (v1 : Int32) (v2 : Int32) (M : MS) => f_X4_breaks_11 K2 k v1 v2 M) v1 v2 M13 else (if v1 = (-1) then f_X4_breaks_66 K2 (fun (v1 : Int32) (v2 : Int32) (M : MS) => f_X4_breaks_11 K2 k v1 v2 M) v2 M13 else (if 0 ≤ v1.toInt ∧ v1.toInt < 80 then (if ((M13.2.1 20) v2.toNatClampNeg) < ((M13.2.1 20) v1.toNatClampNeg) then f_X4_breaks_68 K2 (fun (v1 : Int32) (v2 : Int32) (M : MS) => f_X4_breaks_11 K2 k v1 v2 M) v1 v2 M13 else f_X4_breaks_66 K2 (fun (v1 : Int32) (v2 : Int32) (M : MS) => f_X4_breaks_11 K2 k v1 v2 M) v2 M13) else none))))) else f_X4_breaks_68 K2 (fun (v1 : Int32) (v2 : Int32) (M : MS) => f_X4_breaks_11 K2 k v1 v2 M) v1 v2 M) else none))
def f_X4_breaks_2  : Nat → Int32 → MS → Option (Int32 × MS)
  | 0, _, _ => none
  | k + 1, v1, M => (if v1 = (-1) then some ((0 : Int32), M) else f_X4_breaks_11 (fun (v1 : Int32) (M : MS) => f_X4_breaks_2  k v1 M) 200 ((-1) : Int32) (0 : Int32) M)
def f_X4_breaks  (M0 : MS) : Option (Int32 × MS) := f_X4_breaks_2  200 (0 : Int32) M0
set_option maxHeartbeats 4000000 in
set_option maxRecDepth 100000 in
theorem c_X4_breaks {l : Launch} {D : va_G} {hp : Heap} {cI cZ : ClassId} {h : Nat} {ad : Nat → Nat} {M0 M' : MS} { r' : Int32} (hg : M0.2.2 ≤ 2048000) (hf : f_X4_breaks  M0 = some (r', M')) : Met l yX4_breaks wsX4_breaks ({ frames := 3, cells := (2048000 - M0.2.2) / 4000, slots := 2 * (2048000 - M0.2.2), locals := 73 }) (va_Pc [.ref h] (k_PreH D [(cI, .int), (cZ, .boolean)] (mW cI cZ h ad M0) hp)) (va_Qv (fun (u : va_W × List (ClassId × FieldType)) => ∃ ad' : Nat → Nat, u = (mW cI cZ h ad' M', [(cI, .int), (cZ, .boolean)]) ∧ M0.2.2 ≤ M'.2.2 ∧ M'.2.2 ≤ 2048000) (k_BM D (va_A (mW cI cZ h ad M0) hp.size) hp ((M'.2.2 - M0.2.2) / 4000) (2 * (M'.2.2 - M0.2.2))) (va_A (mW cI cZ h ad M0) hp.size)) ((2048000 - M0.2.2) / 4000) (2 * (2048000 - M0.2.2)) (va_A (mW cI cZ h ad M0) hp.size) := by
  refine Met.ofW (cc := cX4_breaks) (maxL := 3) (ret := none) (by decide) rfl ?_
  intro p e s m args below meth c s₁ B hml hv
  obtain ⟨rfl, hsz, hP, hK, hD0⟩ := hv
  have hx := B.exec
  have hb := B.bytes
  have hr := B.returns
  have hts := atoms_spec (ws := wsX4_breaks) B.pre
  have hown : s.vm.findClass RX4 = some m.cls := findClass_of_methodNamed B.named
  have hlocks := B.notSynchronized
  have hsz : s.heap = hp := hsz
  subst hsz
  have hD := hD0.self (sz := s.heap.size)
  generalize hAe : va_A (mW cI cZ h ad M0) s.heap.size = A at hD ⊢
  have hA : ∀ q : Nat, s.heap.size ≤ q → A q := fun q h => by rw [← hAe]; exact Or.inr h
  have hS : va_S A s.heap s.heap [] := va_S.rf
  have hl := lv_entry ([.ref h]) (n := 3) (Nat.le_of_ble_eq_true rfl)
  rw [lg_entry_eq]
  generalize (lg_sl ([.ref h]) ++ List.replicate (3 - (lg_sl ([.ref h])).length) Slot.unset).toArray = ls at hl ⊢
  have hl : lv_has ls 3 [(0, .ref h)] := hl
  refine k_Q (fun Q hQ => ?_)
  have B68 : ∀ (K2 : Int32 → MS → Option (Int32 × MS)) (hK2 : ∀ (v1 : Int32)  (M : MS) (ad : Nat → Nat) (H : Heap) (locs : List Loc) (ls : Array Slot), K2 v1 M = some (r', M') → (M0.2.2 ≤ M.2.2 ∧ M.2.2 ≤ 2048000) → va_P D vwCl (mW cI cZ h ad M) H → va_D A (mW cI cZ h ad M) → va_S A s.heap H locs → lv_has ls 3 [(0, .ref h), (1, .int v1)] → W p l e (headSpec wsX4_breaks ({ frames := 3, cells := (2048000 - M0.2.2) / 4000, slots := 2 * (2048000 - M0.2.2), locals := 73 })).room s m ([.ref h] : List Value).toArray below meth c H locs (((M.2.2 - M0.2.2) / 4000)) ((2 * (M.2.2 - M0.2.2))) Q (F0 m 2 ls [])) (K11 : Int32 → Int32 → MS → Option (Int32 × MS)) (hK11 : ∀ (v1 : Int32) (v2 : Int32)  (M : MS) (ad : Nat → Nat) (H : Heap) (locs : List Loc) (ls : Array Slot), K11 v1 v2 M = some (r', M') → (M0.2.2 ≤ M.2.2 ∧ M.2.2 ≤ 2048000) → va_P D vwCl (mW cI cZ h ad M) H → va_D A (mW cI cZ h ad M) → va_S A s.heap H locs → lv_has ls 3 [(0, .ref h), (1, .int v1), (2, .int v2)] → W p l e (headSpec wsX4_breaks ({ frames := 3, cells := (2048000 - M0.2.2) / 4000, slots := 2 * (2048000 - M0.2.2), locals := 73 })).room s m ([.ref h] : List Value).toArray below meth c H locs (((M.2.2 - M0.2.2) / 4000)) ((2 * (M.2.2 - M0.2.2))) Q (F0 m 11 ls [])), ∀ (v1 : Int32) (v2 : Int32)  (M : MS) (ad : Nat → Nat) (H : Heap) (locs : List Loc) (ls : Array Slot), f_X4_breaks_68 K2 K11 v1 v2 M = some (r', M') → (M0.2.2 ≤ M.2.2 ∧ M.2.2 ≤ 2048000) → va_P D vwCl (mW cI cZ h ad M) H → va_D A (mW cI cZ h ad M) → va_S A s.heap H locs → lv_has ls 3 [(0, .ref h), (1, .int v1), (2, .int v2)] → W p l e (headSpec wsX4_breaks ({ frames := 3, cells := (2048000 - M0.2.2) / 4000, slots := 2 * (2048000 - M0.2.2), locals := 73 })).room s m ([.ref h] : List Value).toArray below meth c H locs (((M.2.2 - M0.2.2) / 4000)) ((2 * (M.2.2 - M0.2.2))) Q (F0 m 68 ls []) := by
    intro K2 hK2 K11 hK11
    intro v1 v2  M ad H locs ls hq hg hP hD hS hl
    rw [f_X4_breaks_68] at hq
    refine lv_iinc (v := v2 + 1) (lv' := [(2, .int (v2 + 1)), (0, .ref h), (1, .int v1)]) hx hb dX4_breaks_68 hl (k := 2) rfl (by rfl) (by decide) rfl (fun ls hl => ?_)
    refine lv_goto (tgt := 11) hx hb dX4_breaks_71 (by decide) ?_
    exact hK11 v1 (v2 + 1) M ad _ _ _ hq (by show M0.2.2 ≤ M.2.2 ∧ M.2.2 ≤ 2048000; omega) hP hD hS (lv_sub hl [1, 2, 0] rfl)
  have B66 : ∀ (K2 : Int32 → MS → Option (Int32 × MS)) (hK2 : ∀ (v1 : Int32)  (M : MS) (ad : Nat → Nat) (H : Heap) (locs : List Loc) (ls : Array Slot), K2 v1 M = some (r', M') → (M0.2.2 ≤ M.2.2 ∧ M.2.2 ≤ 2048000) → va_P D vwCl (mW cI cZ h ad M) H → va_D A (mW cI cZ h ad M) → va_S A s.heap H locs → lv_has ls 3 [(0, .ref h), (1, .int v1)] → W p l e (headSpec wsX4_breaks ({ frames := 3, cells := (2048000 - M0.2.2) / 4000, slots := 2 * (2048000 - M0.2.2), locals := 73 })).room s m ([.ref h] : List Value).toArray below meth c H locs (((M.2.2 - M0.2.2) / 4000)) ((2 * (M.2.2 - M0.2.2))) Q (F0 m 2 ls [])) (K11 : Int32 → Int32 → MS → Option (Int32 × MS)) (hK11 : ∀ (v1 : Int32) (v2 : Int32)  (M : MS) (ad : Nat → Nat) (H : Heap) (locs : List Loc) (ls : Array Slot), K11 v1 v2 M = some (r', M') → (M0.2.2 ≤ M.2.2 ∧ M.2.2 ≤ 2048000) → va_P D vwCl (mW cI cZ h ad M) H → va_D A (mW cI cZ h ad M) → va_S A s.heap H locs → lv_has ls 3 [(0, .ref h), (1, .int v1), (2, .int v2)] → W p l e (headSpec wsX4_breaks ({ frames := 3, cells := (2048000 - M0.2.2) / 4000, slots := 2 * (2048000 - M0.2.2), locals := 73 })).room s m ([.ref h] : List Value).toArray below meth c H locs (((M.2.2 - M0.2.2) / 4000)) ((2 * (M.2.2 - M0.2.2))) Q (F0 m 11 ls [])), ∀ (v2 : Int32)  (M : MS) (ad : Nat → Nat) (H : Heap) (locs : List Loc) (ls : Array Slot), f_X4_breaks_66 K2 K11 v2 M = some (r', M') → (M0.2.2 ≤ M.2.2 ∧ M.2.2 ≤ 2048000) → va_P D vwCl (mW cI cZ h ad M) H → va_D A (mW cI cZ h ad M) → va_S A s.heap H locs → lv_has ls 3 [(0, .ref h), (2, .int v2)] → W p l e (headSpec wsX4_breaks ({ frames := 3, cells := (2048000 - M0.2.2) / 4000, slots := 2 * (2048000 - M0.2.2), locals := 73 })).room s m ([.ref h] : List Value).toArray below meth c H locs (((M.2.2 - M0.2.2) / 4000)) ((2 * (M.2.2 - M0.2.2))) Q (F0 m 66 ls []) := by
    intro K2 hK2 K11 hK11
    intro v2  M ad H locs ls hq hg hP hD hS hl
    rw [f_X4_breaks_66] at hq
    refine lv_iload_n hx hb dX4_breaks_66 rfl (lv_at hl 1 rfl) ?_
    refine lv_istore_n (lv' := [(1, .int v2), (0, .ref h), (2, .int v2)]) hx hb dX4_breaks_67 rfl hl (by decide) rfl (fun ls hl => ?_)
    exact B68 K2 hK2 K11 hK11 v2 v2 M ad _ _ _ hq (by show M0.2.2 ≤ M.2.2 ∧ M.2.2 ≤ 2048000; omega) hP hD hS (lv_sub hl [1, 0, 2] rfl)
  have B11 : ∀ (K2 : Int32 → MS → Option (Int32 × MS)) (hK2 : ∀ (v1 : Int32)  (M : MS) (ad : Nat → Nat) (H : Heap) (locs : List Loc) (ls : Array Slot), K2 v1 M = some (r', M') → (M0.2.2 ≤ M.2.2 ∧ M.2.2 ≤ 2048000) → va_P D vwCl (mW cI cZ h ad M) H → va_D A (mW cI cZ h ad M) → va_S A s.heap H locs → lv_has ls 3 [(0, .ref h), (1, .int v1)] → W p l e (headSpec wsX4_breaks ({ frames := 3, cells := (2048000 - M0.2.2) / 4000, slots := 2 * (2048000 - M0.2.2), locals := 73 })).room s m ([.ref h] : List Value).toArray below meth c H locs (((M.2.2 - M0.2.2) / 4000)) ((2 * (M.2.2 - M0.2.2))) Q (F0 m 2 ls [])) (k : Nat), ∀ (v1 : Int32) (v2 : Int32)  (M : MS) (ad : Nat → Nat) (H : Heap) (locs : List Loc) (ls : Array Slot), f_X4_breaks_11 K2 k v1 v2 M = some (r', M') → (M0.2.2 ≤ M.2.2 ∧ M.2.2 ≤ 2048000) → va_P D vwCl (mW cI cZ h ad M) H → va_D A (mW cI cZ h ad M) → va_S A s.heap H locs → lv_has ls 3 [(0, .ref h), (1, .int v1), (2, .int v2)] → W p l e (headSpec wsX4_breaks ({ frames := 3, cells := (2048000 - M0.2.2) / 4000, slots := 2 * (2048000 - M0.2.2), locals := 73 })).room s m ([.ref h] : List Value).toArray below meth c H locs (((M.2.2 - M0.2.2) / 4000)) ((2 * (M.2.2 - M0.2.2))) Q (F0 m 11 ls []) := by
    intro K2 hK2 k
    induction k with
    | zero =>
      intro v1 v2  M ad H locs ls hq hg hP hD hS hl
      exact absurd hq (by rw [f_X4_breaks_11]; exact k_non)
    | succ k ih =>
      intro v1 v2  M ad H locs ls hq hg hP hD hS hl
      rw [f_X4_breaks_11] at hq
      refine lv_iload_n hx hb dX4_breaks_11 rfl (lv_at hl 2 rfl) ?_
      refine lv_aload_n hx hb dX4_breaks_12 rfl (lv_at hl 0 rfl) ?_
      refine va_get (D := D) (ci := 4) (v := .int (M.1 7)) (C := RX4) (T := TX4) (N := 39) hx hb hts kin_X4_breaks_X4 hown hK hP 0 rfl rfl 7 (by decide) (hts _ kw_X4_breaks__fieldLink_RX4_111_ActHouseModel_acts_I_) (fun _ h9 => h9) rfl dX4_breaks_13 ?_
      refine lv_icmp_ge (tgt := 74) hx hb dX4_breaks_16 (by decide) (fun c2 => ?_) (fun c2 => ?_)
      · skip
        rw [if_pos c2] at hq
        refine lv_iload_n hx hb dX4_breaks_74 rfl (lv_at hl 1 rfl) ?_
        refine lv_iconst (v := (-1)) hx hb dX4_breaks_75 (by decide) ?_
        refine lv_icmp_ne (tgt := 82) hx hb dX4_breaks_76 (by decide) (fun c3 => ?_) (fun c3 => ?_)
        · skip
          rw [if_neg c3] at hq
          refine lv_aload_n hx hb dX4_breaks_82 rfl (lv_at hl 0 rfl) ?_
          refine lv_iconst (v := 4) hx hb dX4_breaks_83 (by decide) ?_
          refine lv_iload_n hx hb dX4_breaks_84 rfl (lv_at hl 1 rfl) ?_
          refine lv_iconst (v := (-1)) hx hb dX4_breaks_85 (by decide) ?_
          obtain ⟨r4, M4, h4, hq⟩ := k_bd hq
          have hFc := k_free hD hS hA
          refine k_facts (fun hn1 hn2 hn3 => ?_)
          refine va_callv (va_runV (As := [.int 4, .int v1, .int (-1)]) (rest := []) ⟨hx, hb, hml, hown, hts⟩ (c_X4_logs (l := l) (D := D) (cI := cI) (cZ := cZ) (h := h) (ad := ad)  (hg := by show M.2.2 ≤ 2048000; omega) (hf := h4)) (cwV 3 hts gX4_breaks_X4_logs rfl rfl rfl (by decide +kernel) ⟨Nat.le_of_ble_eq_true rfl, Nat.le_of_ble_eq_true rfl⟩) ⟨k_blindH, va_recv hK hP (ci := 4) (q0 := 0) rfl rfl, fun U hU hW => ⟨rfl, k_preH hU hW hP hK hD⟩⟩ rfl rfl hl.1 rfl (lv_room (Nat.le_of_ble_eq_true rfl)) dX4_breaks_86 ⟨by show (M.2.2 - M0.2.2) / 4000 + (2048000 - M.2.2) / 4000 ≤ (2048000 - M0.2.2) / 4000; omega, by show 2 * (M.2.2 - M0.2.2) + 2 * (2048000 - M.2.2) ≤ 2 * (2048000 - M0.2.2); omega⟩) hS (fun q _ h => hFc q h) hFc (fun u t H1 locs ht hvm hw hB hz1 hk1 hS => ?_)
          obtain ⟨ad, rfl, hg4, hh4⟩ := hw
          have hg4 : M.2.2 ≤ M4.2.2 := hg4
          obtain ⟨hB, hz2, hz3, hz4⟩ := hB
          rw [ht] at hz2 hz3 hz4
          refine k_tight (k := ((M4.2.2 - M0.2.2) / 4000)) (n := (2 * (M4.2.2 - M0.2.2))) (by omega) (by rw [k_nS_tr hn3.1 hz2]; omega) ?_
          obtain ⟨hP1, hK1, hD1⟩ := hB
          rw [ht] at hP1
          have hP := hP1
          have hD := k_weak hD1 hFc
          generalize H1 = H at hP hS ⊢
          have hP : va_P D vwCl (mW cI cZ h ad M4) _ := hP
          have hD : va_D A (mW cI cZ h ad M4) := hD
          refine lv_aload_n hx hb dX4_breaks_89 rfl (lv_at hl 0 rfl) ?_
          refine lv_iload_n hx hb dX4_breaks_90 rfl (lv_at hl 1 rfl) ?_
          obtain ⟨r5, M5, h5, hq⟩ := k_bd hq
          have hFc := k_free hD hS hA
          refine va_callv (va_runV (As := [.int v1]) (rest := []) ⟨hx, hb, hml, hown, hts⟩ (c_X4_clears (l := l) (D := D) (cI := cI) (cZ := cZ) (h := h) (ad := ad)  (hf := h5)) (cwV 1 hts gX4_breaks_X4_clears rfl rfl rfl (by decide +kernel) ⟨Nat.le_of_ble_eq_true rfl, Nat.le_of_ble_eq_true rfl⟩) ⟨k_blind, va_recv hK hP (ci := 4) (q0 := 0) rfl rfl, fun U hU hW => ⟨rfl, k_pre hU hW hP hK hD⟩⟩ rfl rfl hl.1 rfl (lv_room (Nat.le_of_ble_eq_true rfl)) dX4_breaks_91 ⟨by show (M4.2.2 - M0.2.2) / 4000 + 0 ≤ (2048000 - M0.2.2) / 4000; omega, by show 2 * (M4.2.2 - M0.2.2) + 0 ≤ 2 * (2048000 - M0.2.2); omega⟩) hS (fun q _ h => hFc q h) hFc (fun u t H1 locs ht hvm hw hB hz1 hk1 hS => ?_)
          obtain ⟨rfl, hg5⟩ := hw
          have hg5 : M5.2.2 = M4.2.2 := hg5
          refine W.widen (k := ((M5.2.2 - M0.2.2) / 4000)) (n := (2 * (M5.2.2 - M0.2.2))) (by omega) (by omega) ?_
          obtain ⟨hP1, hK1, hD1⟩ := hB
          rw [ht] at hP1
          have hP := hP1
          have hD := k_weak hD1 hFc
          generalize H1 = H at hP hS ⊢
          have hP : va_P D vwCl (mW cI cZ h ad M5) _ := hP
          have hD : va_D A (mW cI cZ h ad M5) := hD
          refine lv_aload_n hx hb dX4_breaks_94 rfl (lv_at hl 0 rfl) ?_
          refine va_get (D := D) (ci := 4) (v := .ref (ad 11)) (C := RX4) (T := TX4) (N := 39) hx hb hts kin_X4_breaks_X4 hown hK hP 0 rfl rfl 11 (by decide) (hts _ kw_X4_breaks__fieldLink_RX4_37_ActHouseModel_state_I_) (fun _ h9 => h9) rfl dX4_breaks_95 ?_
          refine lv_iload_n hx hb dX4_breaks_98 rfl (lv_at hl 1 rfl) ?_
          refine lv_iconst (v := 0) hx hb dX4_breaks_99 (by decide) ?_
          obtain ⟨b6, hq⟩ := k_if hq
          refine va_iast hx hb hK hP hD hS 10 0 (f := (M5.2.1 11)) rfl rfl (x := 0) (k_in b6.1 b6.2) dX4_breaks_100 (fun H locs hP hD hS => ?_)
          obtain ⟨M7, eM7, hg7, hq⟩ := k_lA hq
          rw [mW_A11, ← eM7] at hP hD
          have hP : va_P D vwCl (mW cI cZ h ad M7) _ := hP
          have hD : va_D A (mW cI cZ h ad M7) := hD
          refine W.widen (k := ((M7.2.2 - M0.2.2) / 4000)) (n := (2 * (M7.2.2 - M0.2.2))) (by omega) (by omega) ?_
          refine lv_aload_n hx hb dX4_breaks_101 rfl (lv_at hl 0 rfl) ?_
          refine va_get (D := D) (ci := 4) (v := .ref (ad 18)) (C := RX4) (T := TX4) (N := 39) hx hb hts kin_X4_breaks_X4 hown hK hP 0 rfl rfl 18 (by decide) (hts _ kw_X4_breaks__fieldLink_RX4_59_ActHouseModel_undone_I_) (fun _ h9 => h9) rfl dX4_breaks_102 ?_
          refine lv_iload_n hx hb dX4_breaks_105 rfl (lv_at hl 1 rfl) ?_
          refine lv_dup2_11 hx hb dX4_breaks_106 rfl rfl ?_
          refine va_iald hx hb hK hP 17 0 (f := (M7.2.1 18)) rfl rfl (k_in b6.1 b6.2) dX4_breaks_107 ?_
          refine lv_iconst (v := 1) hx hb dX4_breaks_108 (by decide) ?_
          refine lv_iadd hx hb dX4_breaks_109 ?_
          refine va_iast hx hb hK hP hD hS 17 0 (f := (M7.2.1 18)) rfl rfl (x := (((M7.2.1 18) v1.toNatClampNeg) + 1)) (k_in b6.1 b6.2) dX4_breaks_110 (fun H locs hP hD hS => ?_)
          obtain ⟨M8, eM8, hg8, hq⟩ := k_lA hq
          rw [mW_A18, ← eM8] at hP hD
          have hP : va_P D vwCl (mW cI cZ h ad M8) _ := hP
          have hD : va_D A (mW cI cZ h ad M8) := hD
          refine W.widen (k := ((M8.2.2 - M0.2.2) / 4000)) (n := (2 * (M8.2.2 - M0.2.2))) (by omega) (by omega) ?_
          refine lv_aload_n hx hb dX4_breaks_111 rfl (lv_at hl 0 rfl) ?_
          refine lv_dup hx hb dX4_breaks_112 rfl ?_
          refine va_get (D := D) (ci := 4) (v := .int (M8.1 34)) (C := RX4) (T := TX4) (N := 39) hx hb hts kin_X4_breaks_X4 hown hK hP 0 rfl rfl 34 (by decide) (hts _ kw_X4_breaks__fieldLink_RX4_184_ActHouseModel_rings_I_) (fun _ h9 => h9) rfl dX4_breaks_113 ?_
          refine lv_iconst (v := 1) hx hb dX4_breaks_116 (by decide) ?_
          refine lv_iadd hx hb dX4_breaks_117 ?_
          refine va_put (D := D) (ci := 4) (v := .int ((M8.1 34) + 1)) (ty := .int) (C := RX4) (T := TX4) (N := 39) hx hb hts kin_X4_breaks_X4 tyX4 tyX4_ok nmX4 hown hK hP hD hS 0 (fs := mF ad M8) rfl rfl 34 (by decide) (hts _ kw_X4_breaks__fieldLink_RX4_184_ActHouseModel_rings_I_) (fun _ h9 => h9) rfl (by decide +kernel) rfl rfl (Nat.le_of_ble_eq_true rfl) dX4_breaks_118 (fun H locs hP hD hS => ?_)
          obtain ⟨M9, eM9, hg9, hq⟩ := k_lI hq
          rw [mW_I34, ← eM9] at hP hD
          have hP : va_P D vwCl (mW cI cZ h ad M9) _ := hP
          have hD : va_D A (mW cI cZ h ad M9) := hD
          refine W.widen (k := ((M9.2.2 - M0.2.2) / 4000)) (n := (2 * (M9.2.2 - M0.2.2))) (by omega) (by omega) ?_
          refine lv_goto (tgt := 2) hx hb dX4_breaks_121 (by decide) ?_
          exact hK2 v1 M9 ad _ _ _ hq (by show M0.2.2 ≤ M9.2.2 ∧ M9.2.2 ≤ 2048000; omega) hP hD hS (lv_sub hl [0, 1] rfl)
        · skip
          rw [if_pos c3] at hq
          refine lv_goto (tgt := 2) hx hb dX4_breaks_79 (by decide) ?_
          exact hK2 v1 M ad _ _ _ hq (by show M0.2.2 ≤ M.2.2 ∧ M.2.2 ≤ 2048000; omega) hP hD hS (lv_sub hl [0, 1] rfl)
      · skip
        rw [if_neg c2] at hq
        refine lv_aload_n hx hb dX4_breaks_19 rfl (lv_at hl 0 rfl) ?_
        refine va_get (D := D) (ci := 4) (v := .ref (ad 11)) (C := RX4) (T := TX4) (N := 39) hx hb hts kin_X4_breaks_X4 hown hK hP 0 rfl rfl 11 (by decide) (hts _ kw_X4_breaks__fieldLink_RX4_37_ActHouseModel_state_I_) (fun _ h9 => h9) rfl dX4_breaks_20 ?_
        refine lv_iload_n hx hb dX4_breaks_23 rfl (lv_at hl 2 rfl) ?_
        obtain ⟨b10, hq⟩ := k_if hq
        refine va_iald hx hb hK hP 10 0 (f := (M.2.1 11)) rfl rfl (k_in b10.1 b10.2) dX4_breaks_24 ?_
        refine lv_iconst (v := 1) hx hb dX4_breaks_25 (by decide) ?_
        refine lv_icmp_ne (tgt := 68) hx hb dX4_breaks_26 (by decide) (fun c11 => ?_) (fun c11 => ?_)
        · skip
          rw [if_neg c11] at hq
          exact B68 K2 hK2 (fun (v1 : Int32) (v2 : Int32) (M : MS) => f_X4_breaks_11 K2 k v1 v2 M) ih v1 v2 M ad _ _ _ hq (by show M0.2.2 ≤ M.2.2 ∧ M.2.2 ≤ 2048000; omega) hP hD hS (lv_sub hl [0, 1, 2] rfl)
        · skip
          rw [if_pos c11] at hq
          refine lv_aload_n hx hb dX4_breaks_29 rfl (lv_at hl 0 rfl) ?_
          refine va_get (D := D) (ci := 4) (v := .ref (ad 16)) (C := RX4) (T := TX4) (N := 39) hx hb hts kin_X4_breaks_X4 hown hK hP 0 rfl rfl 16 (by decide) (hts _ kw_X4_breaks__fieldLink_RX4_52_ActHouseModel_isHeld_Z_) (fun _ h9 => h9) rfl dX4_breaks_30 ?_
          refine lv_iload_n hx hb dX4_breaks_33 rfl (lv_at hl 2 rfl) ?_
          refine va_zald hx hb hK hP 15 1 (f := (M.2.1 16)) rfl rfl (k_in b10.1 b10.2) dX4_breaks_34 ?_
          refine lv_if_eq (tgt := 68) hx hb dX4_breaks_35 (by decide) (fun c12 => ?_) (fun c12 => ?_)
          · skip
            rw [if_pos c12] at hq
            exact B68 K2 hK2 (fun (v1 : Int32) (v2 : Int32) (M : MS) => f_X4_breaks_11 K2 k v1 v2 M) ih v1 v2 M ad _ _ _ hq (by show M0.2.2 ≤ M.2.2 ∧ M.2.2 ≤ 2048000; omega) hP hD hS (lv_sub hl [0, 1, 2] rfl)
          · skip
            rw [if_neg c12] at hq
            refine lv_aload_n hx hb dX4_breaks_38 rfl (lv_at hl 0 rfl) ?_
            refine lv_iload_n hx hb dX4_breaks_39 rfl (lv_at hl 2 rfl) ?_
            obtain ⟨q13, M13, h13, hq⟩ := k_bd hq
            have hFc := k_free hD hS hA
            refine va_calli (va_runV (As := [.int v2]) (rest := []) ⟨hx, hb, hml, hown, hts⟩ (c_X4_isInRing (l := l) (D := D) (cI := cI) (cZ := cZ) (h := h) (ad := ad)  (hf := h13)) (cwV 1 hts gX4_breaks_X4_isInRing rfl rfl rfl (by decide +kernel) ⟨Nat.le_of_ble_eq_true rfl, Nat.le_of_ble_eq_true rfl⟩) ⟨k_blind, va_recv hK hP (ci := 4) (q0 := 0) rfl rfl, fun U hU hW => ⟨rfl, k_pre hU hW hP hK hD⟩⟩ rfl rfl hl.1 rfl (lv_room (Nat.le_of_ble_eq_true rfl)) dX4_breaks_40 ⟨by show (M.2.2 - M0.2.2) / 4000 + 0 ≤ (2048000 - M0.2.2) / 4000; omega, by show 2 * (M.2.2 - M0.2.2) + 0 ≤ 2 * (2048000 - M0.2.2); omega⟩) hS (fun q _ h => hFc q h) hFc (fun r13 u t H1 locs ht hvm hw hB hz1 hk1 hS => ?_)
            obtain ⟨rfl, rfl, hg13⟩ := hw
            have hg13 : M13.2.2 = M.2.2 := hg13
            refine W.widen (k := ((M13.2.2 - M0.2.2) / 4000)) (n := (2 * (M13.2.2 - M0.2.2))) (by omega) (by omega) ?_
            obtain ⟨hP1, hK1, hD1⟩ := hB
            rw [ht] at hP1
            have hP := hP1
            have hD := k_weak hD1 hFc
            generalize H1 = H at hP hS ⊢
            have hP : va_P D vwCl (mW cI cZ h ad M13) _ := hP
            have hD : va_D A (mW cI cZ h ad M13) := hD
            refine lv_if_eq (tgt := 68) hx hb dX4_breaks_43 (by decide) (fun c14 => ?_) (fun c14 => ?_)
            · skip
              rw [if_pos c14] at hq
              exact B68 K2 hK2 (fun (v1 : Int32) (v2 : Int32) (M : MS) => f_X4_breaks_11 K2 k v1 v2 M) ih v1 v2 M13 ad _ _ _ hq (by show M0.2.2 ≤ M13.2.2 ∧ M13.2.2 ≤ 2048000; omega) hP hD hS (lv_sub hl [0, 1, 2] rfl)
            · skip
              rw [if_neg c14] at hq
              refine lv_iload_n hx hb dX4_breaks_46 rfl (lv_at hl 1 rfl) ?_
              refine lv_iconst (v := (-1)) hx hb dX4_breaks_47 (by decide) ?_
              refine lv_icmp_eq (tgt := 66) hx hb dX4_breaks_48 (by decide) (fun c15 => ?_) (fun c15 => ?_)
              · skip
                rw [if_pos c15] at hq
                exact B66 K2 hK2 (fun (v1 : Int32) (v2 : Int32) (M : MS) => f_X4_breaks_11 K2 k v1 v2 M) ih v2 M13 ad _ _ _ hq (by show M0.2.2 ≤ M13.2.2 ∧ M13.2.2 ≤ 2048000; omega) hP hD hS (lv_sub hl [0, 2] rfl)
              · skip
                rw [if_neg c15] at hq
                refine lv_aload_n hx hb dX4_breaks_51 rfl (lv_at hl 0 rfl) ?_
                refine va_get (D := D) (ci := 4) (v := .ref (ad 20)) (C := RX4) (T := TX4) (N := 39) hx hb hts kin_X4_breaks_X4 hown hK hP 0 rfl rfl 20 (by decide) (hts _ kw_X4_breaks__fieldLink_RX4_65_ActHouseModel_begunIn_I_) (fun _ h9 => h9) rfl dX4_breaks_52 ?_
                refine lv_iload_n hx hb dX4_breaks_55 rfl (lv_at hl 2 rfl) ?_
                refine va_iald hx hb hK hP 19 0 (f := (M13.2.1 20)) rfl rfl (k_in b10.1 b10.2) dX4_breaks_56 ?_
                refine lv_aload_n hx hb dX4_breaks_57 rfl (lv_at hl 0 rfl) ?_
                refine va_get (D := D) (ci := 4) (v := .ref (ad 20)) (C := RX4) (T := TX4) (N := 39) hx hb hts kin_X4_breaks_X4 hown hK hP 0 rfl rfl 20 (by decide) (hts _ kw_X4_breaks__fieldLink_RX4_65_ActHouseModel_begunIn_I_) (fun _ h9 => h9) rfl dX4_breaks_58 ?_
                refine lv_iload_n hx hb dX4_breaks_61 rfl (lv_at hl 1 rfl) ?_
                obtain ⟨b16, hq⟩ := k_if hq
                refine va_iald hx hb hK hP 19 0 (f := (M13.2.1 20)) rfl rfl (k_in b16.1 b16.2) dX4_breaks_62 ?_
                refine lv_icmp_lt (tgt := 68) hx hb dX4_breaks_63 (by decide) (fun c17 => ?_) (fun c17 => ?_)
                · skip
                  rw [if_pos c17] at hq
                  exact B68 K2 hK2 (fun (v1 : Int32) (v2 : Int32) (M : MS) => f_X4_breaks_11 K2 k v1 v2 M) ih v1 v2 M13 ad _ _ _ hq (by show M0.2.2 ≤ M13.2.2 ∧ M13.2.2 ≤ 2048000; omega) hP hD hS (lv_sub hl [0, 1, 2] rfl)
                · skip
                  rw [if_neg c17] at hq
                  exact B66 K2 hK2 (fun (v1 : Int32) (v2 : Int32) (M : MS) => f_X4_breaks_11 K2 k v1 v2 M) ih v2 M13 ad _ _ _ hq (by show M0.2.2 ≤ M13.2.2 ∧ M13.2.2 ≤ 2048000; omega) hP hD hS (lv_sub hl [0, 2] rfl)
  have B2 : ∀  (k : Nat), ∀ (v1 : Int32)  (M : MS) (ad : Nat → Nat) (H : Heap) (locs : List Loc) (ls : Array Slot), f_X4_breaks_2  k v1 M = some (r', M') → (M0.2.2 ≤ M.2.2 ∧ M.2.2 ≤ 2048000) → va_P D vwCl (mW cI cZ h ad M) H → va_D A (mW cI cZ h ad M) → va_S A s.heap H locs → lv_has ls 3 [(0, .ref h), (1, .int v1)] → W p l e (headSpec wsX4_breaks ({ frames := 3, cells := (2048000 - M0.2.2) / 4000, slots := 2 * (2048000 - M0.2.2), locals := 73 })).room s m ([.ref h] : List Value).toArray below meth c H locs (((M.2.2 - M0.2.2) / 4000)) ((2 * (M.2.2 - M0.2.2))) Q (F0 m 2 ls []) := by
    intro  k
    induction k with
    | zero =>
      intro v1  M ad H locs ls hq hg hP hD hS hl
      exact absurd hq (by rw [f_X4_breaks_2]; exact k_non)
    | succ k ih =>
      intro v1  M ad H locs ls hq hg hP hD hS hl
      rw [f_X4_breaks_2] at hq
      refine lv_iload_n hx hb dX4_breaks_2 rfl (lv_at hl 1 rfl) ?_
      refine lv_iconst (v := (-1)) hx hb dX4_breaks_3 (by decide) ?_
      refine lv_icmp_eq (tgt := 124) hx hb dX4_breaks_4 (by decide) (fun c1 => ?_) (fun c1 => ?_)
      · skip
        rw [if_pos c1] at hq
        obtain ⟨e2, e3⟩ := k_so hq
        subst hQ
        have hP : va_P D vwCl (mW cI cZ h ad M) _ := hP
        have hD : va_D A (mW cI cZ h ad M) := hD
        have hgE := congrArg (fun X : MS => X.2.2) e3
        have hgE : M.2.2 = M'.2.2 := hgE
        refine k_facts (fun hm1 hm2 hm3 => ?_)
        refine W.widen (k := (2048000 - M0.2.2) / 4000) (n := 2 * (2048000 - M0.2.2)) (by omega) (by omega) ?_
        exact W.vret hx hb hr (fun t ht hW => ⟨⟨(mW cI cZ h ad M, [(cI, .int), (cZ, .boolean)]), rfl, ⟨ad, (congrArg (fun X : MS => ((mW cI cZ h ad X, [(cI, .int), (cZ, .boolean)]) : va_W × List (ClassId × FieldType))) e3), by omega, by omega⟩, ⟨⟨by rw [ht]; exact hP, va_K.moved hW.alike hK, hD⟩, by rw [ht]; exact hm3, by rw [ht]; omega, by rw [ht]; omega⟩⟩, hS.F ht⟩) hS.2.2 dX4_breaks_124
      · skip
        rw [if_neg c1] at hq
        refine lv_iconst (v := (-1)) hx hb dX4_breaks_7 (by decide) ?_
        refine lv_istore_n (lv' := [(1, .int (-1)), (0, .ref h)]) hx hb dX4_breaks_8 rfl hl (by decide) rfl (fun ls hl => ?_)
        refine lv_iconst (v := 0) hx hb dX4_breaks_9 (by decide) ?_
        refine lv_istore_n (lv' := [(2, .int 0), (1, .int (-1)), (0, .ref h)]) hx hb dX4_breaks_10 rfl hl (by decide) rfl (fun ls hl => ?_)
        exact B11 (fun (v1 : Int32) (M : MS) => f_X4_breaks_2  k v1 M) ih 200 ((-1) : Int32) (0 : Int32) M ad _ _ _ hq (by show M0.2.2 ≤ M.2.2 ∧ M.2.2 ≤ 2048000; omega) hP hD hS (lv_sub hl [2, 1, 0] rfl)
  refine W.widen (k := ((M0.2.2 - M0.2.2) / 4000)) (n := (2 * (M0.2.2 - M0.2.2))) (by omega) (by omega) ?_
  have hq := hf
  rw [f_X4_breaks] at hq
  refine lv_iconst (v := 0) hx hb dX4_breaks_0 (by decide) ?_
  refine lv_istore_n (lv' := [(1, .int 0), (0, .ref h)]) hx hb dX4_breaks_1 rfl hl (by decide) rfl (fun ls hl => ?_)
  exact B2  200 (0 : Int32) M0 ad _ _ _ hq (by show M0.2.2 ≤ M0.2.2 ∧ M0.2.2 ≤ 2048000; omega) hP hD hS (lv_sub hl [1, 0] rfl)
set_option maxRecDepth 100000 in
theorem kw_X4_begins__fieldLink_RX4_98_ActHouseModel_order_I_ : (.fieldLink RX4 98 "ActHouseModel" "order" "[I" : Cond) ∈ wsX4_begins := by decide +kernel
set_option maxRecDepth 100000 in
theorem kin_X4_begins_X4 : ∀ w ∈ u_ws RX4 TX4 39, w ∈ wsX4_begins := by decide +kernel
set_option maxRecDepth 100000 in
theorem kw_X4_begins__fieldLink_RX4_111_ActHouseModel_acts_I_ : (.fieldLink RX4 111 "ActHouseModel" "acts" "I" : Cond) ∈ wsX4_begins := by decide +kernel
set_option maxRecDepth 100000 in
theorem kw_X4_begins__fieldLink_RX4_19_ActHouseModel_limits_I_ : (.fieldLink RX4 19 "ActHouseModel" "limits" "[I" : Cond) ∈ wsX4_begins := by decide +kernel
set_option maxRecDepth 100000 in
theorem kw_X4_begins__fieldLink_RX4_31_ActHouseModel_kind_I_ : (.fieldLink RX4 31 "ActHouseModel" "kind" "[I" : Cond) ∈ wsX4_begins := by decide +kernel
set_option maxRecDepth 100000 in
theorem kw_X4_begins__fieldLink_RX4_22_ActHouseModel_longs_I_ : (.fieldLink RX4 22 "ActHouseModel" "longs" "[I" : Cond) ∈ wsX4_begins := by decide +kernel
set_option maxRecDepth 100000 in
theorem kw_X4_begins__fieldLink_RX4_28_ActHouseModel_program_I_ : (.fieldLink RX4 28 "ActHouseModel" "program" "[I" : Cond) ∈ wsX4_begins := by decide +kernel
set_option maxRecDepth 100000 in
theorem kw_X4_begins__fieldLink_RX4_37_ActHouseModel_state_I_ : (.fieldLink RX4 37 "ActHouseModel" "state" "[I" : Cond) ∈ wsX4_begins := by decide +kernel
set_option maxRecDepth 100000 in
theorem kw_X4_begins__fieldLink_RX4_65_ActHouseModel_begunIn_I_ : (.fieldLink RX4 65 "ActHouseModel" "begunIn" "[I" : Cond) ∈ wsX4_begins := by decide +kernel
set_option maxRecDepth 100000 in
theorem kw_X4_begins__fieldLink_RX4_130_ActHouseModel_now_I_ : (.fieldLink RX4 130 "ActHouseModel" "now" "I" : Cond) ∈ wsX4_begins := by decide +kernel
set_option maxRecDepth 100000 in
theorem kw_X4_begins__fieldLink_RX4_40_ActHouseModel_actLong_I_ : (.fieldLink RX4 40 "ActHouseModel" "actLong" "[I" : Cond) ∈ wsX4_begins := by decide +kernel
set_option maxRecDepth 100000 in
theorem kw_X4_begins__fieldLink_RX4_43_ActHouseModel_actSteps_I_ : (.fieldLink RX4 43 "ActHouseModel" "actSteps" "[I" : Cond) ∈ wsX4_begins := by decide +kernel
set_option maxRecDepth 100000 in
theorem kw_X4_begins__fieldLink_RX4_25_ActHouseModel_steps_I_ : (.fieldLink RX4 25 "ActHouseModel" "steps" "[I" : Cond) ∈ wsX4_begins := by decide +kernel
def f_X4_begins_202 (K8 : Int32 → Int32 → MS → Option (Int32 × MS)) (v1 : Int32) (v2 : Int32)  (M : MS) : Option (Int32 × MS) := K8 v1 (v2 + 1) M
def f_X4_begins_153 (K8 : Int32 → Int32 → MS → Option (Int32 × MS)) : Nat → Int32 → Int32 → Int32 → Int32 → MS → Option (Int32 × MS)
  | 0, _, _, _, _, _ => none
  | k + 1, v1, v2, v3, v5, M => (if 12 ≤ v5 then (k_bind (f_X4_logs (0 : Int32) v3 ((-1) : Int32) M) fun r16 M16 => f_X4_begins_202 K8 v1 v2 M16) else (if 0 ≤ v3.toInt ∧ v3.toInt < 80 then (if 0 ≤ ((12 * ((M.2.1 8) v3.toNatClampNeg)) + v5).toInt ∧ ((12 * ((M.2.1 8) v3.toNatClampNeg)) + v5).toInt < 96 then (if 0 ≤ ((12 * v3) + v5).toInt ∧ ((12 * v3) + v5).toInt < 960 then (k_let (mA M 13 (((12 * v3) + v5).toNatClampNeg) ((M.2.1 6) ((12 * ((M.2.1 8) v3.toNatClampNeg)) + v5).toNatClampNeg)) fun M20 => f_X4_begins_153 K8 k v1 v2 v3 (v5 + 1) M20) else none) else none) else none))
def f_X4_begins_69 (K8 : Int32 → Int32 → MS → Option (Int32 × MS)) (K26 : Int32 → Int32 → Int32 → Int32 → Int32 → MS → Option (Int32 × MS)) (v1 : Int32) (v2 : Int32) (v3 : Int32) (v5 : Int32) (s0 : Int32) (s1 : Int32)  (M : MS) : Option (Int32 × MS) := K26 v1 v2 v3 (s1 + s0) (v5 + 1) M
def f_X4_begins_68 (K8 : Int32 → Int32 → MS → Option (Int32 × MS)) (K26 : Int32 → Int32 → Int32 → Int32 → Int32 → MS → Option (Int32 × MS)) (v1 : Int32) (v2 : Int32) (v3 : Int32) (v5 : Int32) (s0 : Int32)  (M : MS) : Option (Int32 × MS) := f_X4_begins_69 K8 K26 v1 v2 v3 v5 (0 : Int32) s0 M
def f_X4_begins_26 (K8 : Int32 → Int32 → MS → Option (Int32 × MS)) : Nat → Int32 → Int32 → Int32 → Int32 → Int32 → MS → Option (Int32 × MS)
  | 0, _, _, _, _, _, _ => none
  | k + 1, v1, v2, v3, v4, v5, M => (if (M.1 7) ≤ v5 then (if 0 ≤ v3.toInt ∧ v3.toInt < 80 then (if 0 ≤ ((M.2.1 9) v3.toNatClampNeg).toInt ∧ ((M.2.1 9) v3.toNatClampNeg).toInt < 4 then (if ((M.2.1 4) ((M.2.1 9) v3.toNatClampNeg).toNatClampNeg) ≤ v4 then f_X4_begins_202 K8 v1 v2 M else (if 0 ≤ ((M.2.1 8) v3.toNatClampNeg).toInt ∧ ((M.2.1 8) v3.toNatClampNeg).toInt < 8 then (if ((M.2.1 5) ((M.2.1 8) v3.toNatClampNeg).toNatClampNeg) = 0 then f_X4_begins_202 K8 v1 v2 M else (k_bind (f_X4_clears v3 M) fun r10 M10 => (k_let (mA M10 11 v3.toNatClampNeg (1 : Int32)) fun M11 => (k_let (mA M11 20 v3.toNatClampNeg (M11.1 0)) fun M12 => (if 0 ≤ ((M12.2.1 8) v3.toNatClampNeg).toInt ∧ ((M12.2.1 8) v3.toNatClampNeg).toInt < 8 then (k_let (mA M12 12 v3.toNatClampNeg ((M12.2.1 5) ((M12.2.1 8) v3.toNatClampNeg).toNatClampNeg)) fun M14 => f_X4_begins_153 K8 200 v1 v2 v3 (0 : Int32) M14) else none))))) else none)) else none) else none) else (if 0 ≤ v5.toInt ∧ v5.toInt < 80 then (if ((M.2.1 11) v5.toNatClampNeg) = 1 then (if 0 ≤ v3.toInt ∧ v3.toInt < 80 then (if ((M.2.1 9) v5.toNatClampNeg) = ((M.2.1 9) v3.toNatClampNeg) then f_X4_begins_69 K8 (fun (v1 : Int32) (v2 : Int32) (v3 : Int32) (v4 : Int32) (v5 : Int32) (M : MS) => f_X4_begins_26 K8 k v1 v2 v3 v4 v5 M) v1 v2 v3 v5 (1 : Int32) v4 M else f_X4_begins_68 K8 (fun (v1 : Int32) (v2 : Int32) (v3 : Int32) (v4 : Int32) (v5 : Int32) (M : MS) => f_X4_begins_26 K8 k v1 v2 v3 v4 v5 M) v1 v2 v3 v5 v4 M) else none) else f_X4_begins_68 K8 (fun (v1 : Int32) (v2 : Int32) (v3 : Int32) (v4 : Int32) (v5 : Int32) (M : MS) => f_X4_begins_26 K8 k v1 v2 v3 v4 v5 M) v1 v2 v3 v5 v4 M) else none))
def f_X4_begins_8  : Nat → Int32 → Int32 → MS → Option (Int32 × MS)
  | 0, _, _, _ => none
  | k + 1, v1, v2, M => (if v1 ≤ v2 then some ((0 : Int32), M) else (if 0 ≤ v2.toInt ∧ v2.toInt < 80 then f_X4_begins_26 (fun (v1 : Int32) (v2 : Int32) (M : MS) => f_X4_begins_8  k v1 v2 M) 200 v1 v2 ((M.2.1 36) v2.toNatClampNeg) (0 : Int32) (0 : Int32) M else none))
def f_X4_begins  (M0 : MS) : Option (Int32 × MS) := (k_bind (f_X4_sorts (0 : Int32) M0) fun r1 M1 => f_X4_begins_8  200 r1 (0 : Int32) M1)
set_option maxHeartbeats 4000000 in
set_option maxRecDepth 100000 in
theorem c_X4_begins {l : Launch} {D : va_G} {hp : Heap} {cI cZ : ClassId} {h : Nat} {ad : Nat → Nat} {M0 M' : MS} { r' : Int32} (hg : M0.2.2 ≤ 2048000) (hf : f_X4_begins  M0 = some (r', M')) : Met l yX4_begins wsX4_begins ({ frames := 2, cells := (2048000 - M0.2.2) / 4000, slots := 2 * (2048000 - M0.2.2), locals := 46 }) (va_Pc [.ref h] (k_PreH D [(cI, .int), (cZ, .boolean)] (mW cI cZ h ad M0) hp)) (va_Qv (fun (u : va_W × List (ClassId × FieldType)) => ∃ ad' : Nat → Nat, u = (mW cI cZ h ad' M', [(cI, .int), (cZ, .boolean)]) ∧ M0.2.2 ≤ M'.2.2 ∧ M'.2.2 ≤ 2048000) (k_BM D (va_A (mW cI cZ h ad M0) hp.size) hp ((M'.2.2 - M0.2.2) / 4000) (2 * (M'.2.2 - M0.2.2))) (va_A (mW cI cZ h ad M0) hp.size)) ((2048000 - M0.2.2) / 4000) (2 * (2048000 - M0.2.2)) (va_A (mW cI cZ h ad M0) hp.size) := by
  refine Met.ofW (cc := cX4_begins) (maxL := 6) (ret := none) (by decide) rfl ?_
  intro p e s m args below meth c s₁ B hml hv
  obtain ⟨rfl, hsz, hP, hK, hD0⟩ := hv
  have hx := B.exec
  have hb := B.bytes
  have hr := B.returns
  have hts := atoms_spec (ws := wsX4_begins) B.pre
  have hown : s.vm.findClass RX4 = some m.cls := findClass_of_methodNamed B.named
  have hlocks := B.notSynchronized
  have hsz : s.heap = hp := hsz
  subst hsz
  have hD := hD0.self (sz := s.heap.size)
  generalize hAe : va_A (mW cI cZ h ad M0) s.heap.size = A at hD ⊢
  have hA : ∀ q : Nat, s.heap.size ≤ q → A q := fun q h => by rw [← hAe]; exact Or.inr h
  have hS : va_S A s.heap s.heap [] := va_S.rf
  have hl := lv_entry ([.ref h]) (n := 6) (Nat.le_of_ble_eq_true rfl)
  rw [lg_entry_eq]
  generalize (lg_sl ([.ref h]) ++ List.replicate (6 - (lg_sl ([.ref h])).length) Slot.unset).toArray = ls at hl ⊢
  have hl : lv_has ls 6 [(0, .ref h)] := hl
  refine k_Q (fun Q hQ => ?_)
  have B202 : ∀ (K8 : Int32 → Int32 → MS → Option (Int32 × MS)) (hK8 : ∀ (v1 : Int32) (v2 : Int32)  (M : MS) (ad : Nat → Nat) (H : Heap) (locs : List Loc) (ls : Array Slot), K8 v1 v2 M = some (r', M') → (M0.2.2 ≤ M.2.2 ∧ M.2.2 ≤ 2048000) → va_P D vwCl (mW cI cZ h ad M) H → va_D A (mW cI cZ h ad M) → va_S A s.heap H locs → lv_has ls 6 [(0, .ref h), (1, .int v1), (2, .int v2)] → W p l e (headSpec wsX4_begins ({ frames := 2, cells := (2048000 - M0.2.2) / 4000, slots := 2 * (2048000 - M0.2.2), locals := 46 })).room s m ([.ref h] : List Value).toArray below meth c H locs (((M.2.2 - M0.2.2) / 4000)) ((2 * (M.2.2 - M0.2.2))) Q (F0 m 8 ls [])), ∀ (v1 : Int32) (v2 : Int32)  (M : MS) (ad : Nat → Nat) (H : Heap) (locs : List Loc) (ls : Array Slot), f_X4_begins_202 K8 v1 v2 M = some (r', M') → (M0.2.2 ≤ M.2.2 ∧ M.2.2 ≤ 2048000) → va_P D vwCl (mW cI cZ h ad M) H → va_D A (mW cI cZ h ad M) → va_S A s.heap H locs → lv_has ls 6 [(0, .ref h), (1, .int v1), (2, .int v2)] → W p l e (headSpec wsX4_begins ({ frames := 2, cells := (2048000 - M0.2.2) / 4000, slots := 2 * (2048000 - M0.2.2), locals := 46 })).room s m ([.ref h] : List Value).toArray below meth c H locs (((M.2.2 - M0.2.2) / 4000)) ((2 * (M.2.2 - M0.2.2))) Q (F0 m 202 ls []) := by
    intro K8 hK8
    intro v1 v2  M ad H locs ls hq hg hP hD hS hl
    rw [f_X4_begins_202] at hq
    refine lv_iinc (v := v2 + 1) (lv' := [(2, .int (v2 + 1)), (0, .ref h), (1, .int v1)]) hx hb dX4_begins_202 hl (k := 2) rfl (by rfl) (by decide) rfl (fun ls hl => ?_)
    refine lv_goto (tgt := 8) hx hb dX4_begins_205 (by decide) ?_
    exact hK8 v1 (v2 + 1) M ad _ _ _ hq (by show M0.2.2 ≤ M.2.2 ∧ M.2.2 ≤ 2048000; omega) hP hD hS (lv_sub hl [1, 2, 0] rfl)
  have B153 : ∀ (K8 : Int32 → Int32 → MS → Option (Int32 × MS)) (hK8 : ∀ (v1 : Int32) (v2 : Int32)  (M : MS) (ad : Nat → Nat) (H : Heap) (locs : List Loc) (ls : Array Slot), K8 v1 v2 M = some (r', M') → (M0.2.2 ≤ M.2.2 ∧ M.2.2 ≤ 2048000) → va_P D vwCl (mW cI cZ h ad M) H → va_D A (mW cI cZ h ad M) → va_S A s.heap H locs → lv_has ls 6 [(0, .ref h), (1, .int v1), (2, .int v2)] → W p l e (headSpec wsX4_begins ({ frames := 2, cells := (2048000 - M0.2.2) / 4000, slots := 2 * (2048000 - M0.2.2), locals := 46 })).room s m ([.ref h] : List Value).toArray below meth c H locs (((M.2.2 - M0.2.2) / 4000)) ((2 * (M.2.2 - M0.2.2))) Q (F0 m 8 ls [])) (k : Nat), ∀ (v1 : Int32) (v2 : Int32) (v3 : Int32) (v5 : Int32)  (M : MS) (ad : Nat → Nat) (H : Heap) (locs : List Loc) (ls : Array Slot), f_X4_begins_153 K8 k v1 v2 v3 v5 M = some (r', M') → (M0.2.2 ≤ M.2.2 ∧ M.2.2 ≤ 2048000) → va_P D vwCl (mW cI cZ h ad M) H → va_D A (mW cI cZ h ad M) → va_S A s.heap H locs → lv_has ls 6 [(0, .ref h), (1, .int v1), (2, .int v2), (3, .int v3), (5, .int v5)] → W p l e (headSpec wsX4_begins ({ frames := 2, cells := (2048000 - M0.2.2) / 4000, slots := 2 * (2048000 - M0.2.2), locals := 46 })).room s m ([.ref h] : List Value).toArray below meth c H locs (((M.2.2 - M0.2.2) / 4000)) ((2 * (M.2.2 - M0.2.2))) Q (F0 m 153 ls []) := by
    intro K8 hK8 k
    induction k with
    | zero =>
      intro v1 v2 v3 v5  M ad H locs ls hq hg hP hD hS hl
      exact absurd hq (by rw [f_X4_begins_153]; exact k_non)
    | succ k ih =>
      intro v1 v2 v3 v5  M ad H locs ls hq hg hP hD hS hl
      rw [f_X4_begins_153] at hq
      refine lv_iload hx hb dX4_begins_153 (lv_at hl 4 rfl) ?_
      refine lv_bipush (v := 12) hx hb dX4_begins_155 (by decide) ?_
      refine lv_icmp_ge (tgt := 195) hx hb dX4_begins_157 (by decide) (fun c15 => ?_) (fun c15 => ?_)
      · skip
        rw [if_pos c15] at hq
        refine lv_aload_n hx hb dX4_begins_195 rfl (lv_at hl 0 rfl) ?_
        refine lv_iconst (v := 0) hx hb dX4_begins_196 (by decide) ?_
        refine lv_iload_n hx hb dX4_begins_197 rfl (lv_at hl 3 rfl) ?_
        refine lv_iconst (v := (-1)) hx hb dX4_begins_198 (by decide) ?_
        obtain ⟨r16, M16, h16, hq⟩ := k_bd hq
        have hFc := k_free hD hS hA
        refine k_facts (fun hn1 hn2 hn3 => ?_)
        refine va_callv (va_runV (As := [.int 0, .int v3, .int (-1)]) (rest := []) ⟨hx, hb, hml, hown, hts⟩ (c_X4_logs (l := l) (D := D) (cI := cI) (cZ := cZ) (h := h) (ad := ad)  (hg := by show M.2.2 ≤ 2048000; omega) (hf := h16)) (cwV 3 hts gX4_begins_X4_logs rfl rfl rfl (by decide +kernel) ⟨Nat.le_of_ble_eq_true rfl, Nat.le_of_ble_eq_true rfl⟩) ⟨k_blindH, va_recv hK hP (ci := 4) (q0 := 0) rfl rfl, fun U hU hW => ⟨rfl, k_preH hU hW hP hK hD⟩⟩ rfl rfl hl.1 rfl (lv_room (Nat.le_of_ble_eq_true rfl)) dX4_begins_199 ⟨by show (M.2.2 - M0.2.2) / 4000 + (2048000 - M.2.2) / 4000 ≤ (2048000 - M0.2.2) / 4000; omega, by show 2 * (M.2.2 - M0.2.2) + 2 * (2048000 - M.2.2) ≤ 2 * (2048000 - M0.2.2); omega⟩) hS (fun q _ h => hFc q h) hFc (fun u t H1 locs ht hvm hw hB hz1 hk1 hS => ?_)
        obtain ⟨ad, rfl, hg16, hh16⟩ := hw
        have hg16 : M.2.2 ≤ M16.2.2 := hg16
        obtain ⟨hB, hz2, hz3, hz4⟩ := hB
        rw [ht] at hz2 hz3 hz4
        refine k_tight (k := ((M16.2.2 - M0.2.2) / 4000)) (n := (2 * (M16.2.2 - M0.2.2))) (by omega) (by rw [k_nS_tr hn3.1 hz2]; omega) ?_
        obtain ⟨hP1, hK1, hD1⟩ := hB
        rw [ht] at hP1
        have hP := hP1
        have hD := k_weak hD1 hFc
        generalize H1 = H at hP hS ⊢
        have hP : va_P D vwCl (mW cI cZ h ad M16) _ := hP
        have hD : va_D A (mW cI cZ h ad M16) := hD
        exact B202 K8 hK8 v1 v2 M16 ad _ _ _ hq (by show M0.2.2 ≤ M16.2.2 ∧ M16.2.2 ≤ 2048000; omega) hP hD hS (lv_sub hl [0, 1, 2] rfl)
      · skip
        rw [if_neg c15] at hq
        refine lv_aload_n hx hb dX4_begins_160 rfl (lv_at hl 0 rfl) ?_
        refine va_get (D := D) (ci := 4) (v := .ref (ad 13)) (C := RX4) (T := TX4) (N := 39) hx hb hts kin_X4_begins_X4 hown hK hP 0 rfl rfl 13 (by decide) (hts _ kw_X4_begins__fieldLink_RX4_43_ActHouseModel_actSteps_I_) (fun _ h9 => h9) rfl dX4_begins_161 ?_
        refine lv_bipush (v := 12) hx hb dX4_begins_164 (by decide) ?_
        refine lv_iload_n hx hb dX4_begins_166 rfl (lv_at hl 3 rfl) ?_
        refine lv_imul hx hb dX4_begins_167 ?_
        refine lv_iload hx hb dX4_begins_168 (lv_at hl 4 rfl) ?_
        refine lv_iadd hx hb dX4_begins_170 ?_
        refine lv_aload_n hx hb dX4_begins_171 rfl (lv_at hl 0 rfl) ?_
        refine va_get (D := D) (ci := 4) (v := .ref (ad 6)) (C := RX4) (T := TX4) (N := 39) hx hb hts kin_X4_begins_X4 hown hK hP 0 rfl rfl 6 (by decide) (hts _ kw_X4_begins__fieldLink_RX4_25_ActHouseModel_steps_I_) (fun _ h9 => h9) rfl dX4_begins_172 ?_
        refine lv_bipush (v := 12) hx hb dX4_begins_175 (by decide) ?_
        refine lv_aload_n hx hb dX4_begins_177 rfl (lv_at hl 0 rfl) ?_
        refine va_get (D := D) (ci := 4) (v := .ref (ad 8)) (C := RX4) (T := TX4) (N := 39) hx hb hts kin_X4_begins_X4 hown hK hP 0 rfl rfl 8 (by decide) (hts _ kw_X4_begins__fieldLink_RX4_28_ActHouseModel_program_I_) (fun _ h9 => h9) rfl dX4_begins_178 ?_
        refine lv_iload_n hx hb dX4_begins_181 rfl (lv_at hl 3 rfl) ?_
        obtain ⟨b17, hq⟩ := k_if hq
        refine va_iald hx hb hK hP 7 0 (f := (M.2.1 8)) rfl rfl (k_in b17.1 b17.2) dX4_begins_182 ?_
        refine lv_imul hx hb dX4_begins_183 ?_
        refine lv_iload hx hb dX4_begins_184 (lv_at hl 4 rfl) ?_
        refine lv_iadd hx hb dX4_begins_186 ?_
        obtain ⟨b18, hq⟩ := k_if hq
        refine va_iald hx hb hK hP 6 0 (f := (M.2.1 6)) rfl rfl (k_in b18.1 b18.2) dX4_begins_187 ?_
        obtain ⟨b19, hq⟩ := k_if hq
        refine va_iast hx hb hK hP hD hS 12 0 (f := (M.2.1 13)) rfl rfl (x := ((M.2.1 6) ((12 * ((M.2.1 8) v3.toNatClampNeg)) + v5).toNatClampNeg)) (k_in b19.1 b19.2) dX4_begins_188 (fun H locs hP hD hS => ?_)
        obtain ⟨M20, eM20, hg20, hq⟩ := k_lA hq
        rw [mW_A13, ← eM20] at hP hD
        have hP : va_P D vwCl (mW cI cZ h ad M20) _ := hP
        have hD : va_D A (mW cI cZ h ad M20) := hD
        refine W.widen (k := ((M20.2.2 - M0.2.2) / 4000)) (n := (2 * (M20.2.2 - M0.2.2))) (by omega) (by omega) ?_
        refine lv_iinc (v := v5 + 1) (lv' := [(5, .int (v5 + 1)), (0, .ref h), (1, .int v1), (2, .int v2), (3, .int v3)]) hx hb dX4_begins_189 hl (k := 4) rfl (by rfl) (by decide) rfl (fun ls hl => ?_)
        refine lv_goto (tgt := 153) hx hb dX4_begins_192 (by decide) ?_
        exact ih v1 v2 v3 (v5 + 1) M20 ad _ _ _ hq (by show M0.2.2 ≤ M20.2.2 ∧ M20.2.2 ≤ 2048000; omega) hP hD hS (lv_sub hl [1, 2, 3, 4, 0] rfl)
  have B69 : ∀ (K8 : Int32 → Int32 → MS → Option (Int32 × MS)) (hK8 : ∀ (v1 : Int32) (v2 : Int32)  (M : MS) (ad : Nat → Nat) (H : Heap) (locs : List Loc) (ls : Array Slot), K8 v1 v2 M = some (r', M') → (M0.2.2 ≤ M.2.2 ∧ M.2.2 ≤ 2048000) → va_P D vwCl (mW cI cZ h ad M) H → va_D A (mW cI cZ h ad M) → va_S A s.heap H locs → lv_has ls 6 [(0, .ref h), (1, .int v1), (2, .int v2)] → W p l e (headSpec wsX4_begins ({ frames := 2, cells := (2048000 - M0.2.2) / 4000, slots := 2 * (2048000 - M0.2.2), locals := 46 })).room s m ([.ref h] : List Value).toArray below meth c H locs (((M.2.2 - M0.2.2) / 4000)) ((2 * (M.2.2 - M0.2.2))) Q (F0 m 8 ls [])) (K26 : Int32 → Int32 → Int32 → Int32 → Int32 → MS → Option (Int32 × MS)) (hK26 : ∀ (v1 : Int32) (v2 : Int32) (v3 : Int32) (v4 : Int32) (v5 : Int32)  (M : MS) (ad : Nat → Nat) (H : Heap) (locs : List Loc) (ls : Array Slot), K26 v1 v2 v3 v4 v5 M = some (r', M') → (M0.2.2 ≤ M.2.2 ∧ M.2.2 ≤ 2048000) → va_P D vwCl (mW cI cZ h ad M) H → va_D A (mW cI cZ h ad M) → va_S A s.heap H locs → lv_has ls 6 [(0, .ref h), (1, .int v1), (2, .int v2), (3, .int v3), (4, .int v4), (5, .int v5)] → W p l e (headSpec wsX4_begins ({ frames := 2, cells := (2048000 - M0.2.2) / 4000, slots := 2 * (2048000 - M0.2.2), locals := 46 })).room s m ([.ref h] : List Value).toArray below meth c H locs (((M.2.2 - M0.2.2) / 4000)) ((2 * (M.2.2 - M0.2.2))) Q (F0 m 26 ls [])), ∀ (v1 : Int32) (v2 : Int32) (v3 : Int32) (v5 : Int32) (s0 : Int32) (s1 : Int32)  (M : MS) (ad : Nat → Nat) (H : Heap) (locs : List Loc) (ls : Array Slot), f_X4_begins_69 K8 K26 v1 v2 v3 v5 s0 s1 M = some (r', M') → (M0.2.2 ≤ M.2.2 ∧ M.2.2 ≤ 2048000) → va_P D vwCl (mW cI cZ h ad M) H → va_D A (mW cI cZ h ad M) → va_S A s.heap H locs → lv_has ls 6 [(0, .ref h), (1, .int v1), (2, .int v2), (3, .int v3), (5, .int v5)] → W p l e (headSpec wsX4_begins ({ frames := 2, cells := (2048000 - M0.2.2) / 4000, slots := 2 * (2048000 - M0.2.2), locals := 46 })).room s m ([.ref h] : List Value).toArray below meth c H locs (((M.2.2 - M0.2.2) / 4000)) ((2 * (M.2.2 - M0.2.2))) Q (F0 m 69 ls [.int s0, .int s1]) := by
    intro K8 hK8 K26 hK26
    intro v1 v2 v3 v5 s0 s1  M ad H locs ls hq hg hP hD hS hl
    rw [f_X4_begins_69] at hq
    refine lv_iadd hx hb dX4_begins_69 ?_
    refine lv_istore (lv' := [(4, .int (s1 + s0)), (0, .ref h), (1, .int v1), (2, .int v2), (3, .int v3), (5, .int v5)]) hx hb dX4_begins_70 hl (by decide) rfl (fun ls hl => ?_)
    refine lv_iinc (v := v5 + 1) (lv' := [(5, .int (v5 + 1)), (4, .int (s1 + s0)), (0, .ref h), (1, .int v1), (2, .int v2), (3, .int v3)]) hx hb dX4_begins_72 hl (k := 5) rfl (by rfl) (by decide) rfl (fun ls hl => ?_)
    refine lv_goto (tgt := 26) hx hb dX4_begins_75 (by decide) ?_
    exact hK26 v1 v2 v3 (s1 + s0) (v5 + 1) M ad _ _ _ hq (by show M0.2.2 ≤ M.2.2 ∧ M.2.2 ≤ 2048000; omega) hP hD hS (lv_sub hl [2, 3, 4, 5, 1, 0] rfl)
  have B68 : ∀ (K8 : Int32 → Int32 → MS → Option (Int32 × MS)) (hK8 : ∀ (v1 : Int32) (v2 : Int32)  (M : MS) (ad : Nat → Nat) (H : Heap) (locs : List Loc) (ls : Array Slot), K8 v1 v2 M = some (r', M') → (M0.2.2 ≤ M.2.2 ∧ M.2.2 ≤ 2048000) → va_P D vwCl (mW cI cZ h ad M) H → va_D A (mW cI cZ h ad M) → va_S A s.heap H locs → lv_has ls 6 [(0, .ref h), (1, .int v1), (2, .int v2)] → W p l e (headSpec wsX4_begins ({ frames := 2, cells := (2048000 - M0.2.2) / 4000, slots := 2 * (2048000 - M0.2.2), locals := 46 })).room s m ([.ref h] : List Value).toArray below meth c H locs (((M.2.2 - M0.2.2) / 4000)) ((2 * (M.2.2 - M0.2.2))) Q (F0 m 8 ls [])) (K26 : Int32 → Int32 → Int32 → Int32 → Int32 → MS → Option (Int32 × MS)) (hK26 : ∀ (v1 : Int32) (v2 : Int32) (v3 : Int32) (v4 : Int32) (v5 : Int32)  (M : MS) (ad : Nat → Nat) (H : Heap) (locs : List Loc) (ls : Array Slot), K26 v1 v2 v3 v4 v5 M = some (r', M') → (M0.2.2 ≤ M.2.2 ∧ M.2.2 ≤ 2048000) → va_P D vwCl (mW cI cZ h ad M) H → va_D A (mW cI cZ h ad M) → va_S A s.heap H locs → lv_has ls 6 [(0, .ref h), (1, .int v1), (2, .int v2), (3, .int v3), (4, .int v4), (5, .int v5)] → W p l e (headSpec wsX4_begins ({ frames := 2, cells := (2048000 - M0.2.2) / 4000, slots := 2 * (2048000 - M0.2.2), locals := 46 })).room s m ([.ref h] : List Value).toArray below meth c H locs (((M.2.2 - M0.2.2) / 4000)) ((2 * (M.2.2 - M0.2.2))) Q (F0 m 26 ls [])), ∀ (v1 : Int32) (v2 : Int32) (v3 : Int32) (v5 : Int32) (s0 : Int32)  (M : MS) (ad : Nat → Nat) (H : Heap) (locs : List Loc) (ls : Array Slot), f_X4_begins_68 K8 K26 v1 v2 v3 v5 s0 M = some (r', M') → (M0.2.2 ≤ M.2.2 ∧ M.2.2 ≤ 2048000) → va_P D vwCl (mW cI cZ h ad M) H → va_D A (mW cI cZ h ad M) → va_S A s.heap H locs → lv_has ls 6 [(0, .ref h), (1, .int v1), (2, .int v2), (3, .int v3), (5, .int v5)] → W p l e (headSpec wsX4_begins ({ frames := 2, cells := (2048000 - M0.2.2) / 4000, slots := 2 * (2048000 - M0.2.2), locals := 46 })).room s m ([.ref h] : List Value).toArray below meth c H locs (((M.2.2 - M0.2.2) / 4000)) ((2 * (M.2.2 - M0.2.2))) Q (F0 m 68 ls [.int s0]) := by
    intro K8 hK8 K26 hK26
    intro v1 v2 v3 v5 s0  M ad H locs ls hq hg hP hD hS hl
    rw [f_X4_begins_68] at hq
    refine lv_iconst (v := 0) hx hb dX4_begins_68 (by decide) ?_
    exact B69 K8 hK8 K26 hK26 v1 v2 v3 v5 (0 : Int32) s0 M ad _ _ _ hq (by show M0.2.2 ≤ M.2.2 ∧ M.2.2 ≤ 2048000; omega) hP hD hS (lv_sub hl [0, 1, 2, 3, 4] rfl)
  have B26 : ∀ (K8 : Int32 → Int32 → MS → Option (Int32 × MS)) (hK8 : ∀ (v1 : Int32) (v2 : Int32)  (M : MS) (ad : Nat → Nat) (H : Heap) (locs : List Loc) (ls : Array Slot), K8 v1 v2 M = some (r', M') → (M0.2.2 ≤ M.2.2 ∧ M.2.2 ≤ 2048000) → va_P D vwCl (mW cI cZ h ad M) H → va_D A (mW cI cZ h ad M) → va_S A s.heap H locs → lv_has ls 6 [(0, .ref h), (1, .int v1), (2, .int v2)] → W p l e (headSpec wsX4_begins ({ frames := 2, cells := (2048000 - M0.2.2) / 4000, slots := 2 * (2048000 - M0.2.2), locals := 46 })).room s m ([.ref h] : List Value).toArray below meth c H locs (((M.2.2 - M0.2.2) / 4000)) ((2 * (M.2.2 - M0.2.2))) Q (F0 m 8 ls [])) (k : Nat), ∀ (v1 : Int32) (v2 : Int32) (v3 : Int32) (v4 : Int32) (v5 : Int32)  (M : MS) (ad : Nat → Nat) (H : Heap) (locs : List Loc) (ls : Array Slot), f_X4_begins_26 K8 k v1 v2 v3 v4 v5 M = some (r', M') → (M0.2.2 ≤ M.2.2 ∧ M.2.2 ≤ 2048000) → va_P D vwCl (mW cI cZ h ad M) H → va_D A (mW cI cZ h ad M) → va_S A s.heap H locs → lv_has ls 6 [(0, .ref h), (1, .int v1), (2, .int v2), (3, .int v3), (4, .int v4), (5, .int v5)] → W p l e (headSpec wsX4_begins ({ frames := 2, cells := (2048000 - M0.2.2) / 4000, slots := 2 * (2048000 - M0.2.2), locals := 46 })).room s m ([.ref h] : List Value).toArray below meth c H locs (((M.2.2 - M0.2.2) / 4000)) ((2 * (M.2.2 - M0.2.2))) Q (F0 m 26 ls []) := by
    intro K8 hK8 k
    induction k with
    | zero =>
      intro v1 v2 v3 v4 v5  M ad H locs ls hq hg hP hD hS hl
      exact absurd hq (by rw [f_X4_begins_26]; exact k_non)
    | succ k ih =>
      intro v1 v2 v3 v4 v5  M ad H locs ls hq hg hP hD hS hl
      rw [f_X4_begins_26] at hq
      refine lv_iload hx hb dX4_begins_26 (lv_at hl 5 rfl) ?_
      refine lv_aload_n hx hb dX4_begins_28 rfl (lv_at hl 0 rfl) ?_
      refine va_get (D := D) (ci := 4) (v := .int (M.1 7)) (C := RX4) (T := TX4) (N := 39) hx hb hts kin_X4_begins_X4 hown hK hP 0 rfl rfl 7 (by decide) (hts _ kw_X4_begins__fieldLink_RX4_111_ActHouseModel_acts_I_) (fun _ h9 => h9) rfl dX4_begins_29 ?_
      refine lv_icmp_ge (tgt := 78) hx hb dX4_begins_32 (by decide) (fun c4 => ?_) (fun c4 => ?_)
      · skip
        rw [if_pos c4] at hq
        refine lv_iload hx hb dX4_begins_78 (lv_at hl 4 rfl) ?_
        refine lv_aload_n hx hb dX4_begins_80 rfl (lv_at hl 0 rfl) ?_
        refine va_get (D := D) (ci := 4) (v := .ref (ad 4)) (C := RX4) (T := TX4) (N := 39) hx hb hts kin_X4_begins_X4 hown hK hP 0 rfl rfl 4 (by decide) (hts _ kw_X4_begins__fieldLink_RX4_19_ActHouseModel_limits_I_) (fun _ h9 => h9) rfl dX4_begins_81 ?_
        refine lv_aload_n hx hb dX4_begins_84 rfl (lv_at hl 0 rfl) ?_
        refine va_get (D := D) (ci := 4) (v := .ref (ad 9)) (C := RX4) (T := TX4) (N := 39) hx hb hts kin_X4_begins_X4 hown hK hP 0 rfl rfl 9 (by decide) (hts _ kw_X4_begins__fieldLink_RX4_31_ActHouseModel_kind_I_) (fun _ h9 => h9) rfl dX4_begins_85 ?_
        refine lv_iload_n hx hb dX4_begins_88 rfl (lv_at hl 3 rfl) ?_
        obtain ⟨b5, hq⟩ := k_if hq
        refine va_iald hx hb hK hP 8 0 (f := (M.2.1 9)) rfl rfl (k_in b5.1 b5.2) dX4_begins_89 ?_
        obtain ⟨b6, hq⟩ := k_if hq
        refine va_iald hx hb hK hP 4 0 (f := (M.2.1 4)) rfl rfl (k_in b6.1 b6.2) dX4_begins_90 ?_
        refine lv_icmp_ge (tgt := 202) hx hb dX4_begins_91 (by decide) (fun c7 => ?_) (fun c7 => ?_)
        · skip
          rw [if_pos c7] at hq
          exact B202 K8 hK8 v1 v2 M ad _ _ _ hq (by show M0.2.2 ≤ M.2.2 ∧ M.2.2 ≤ 2048000; omega) hP hD hS (lv_sub hl [0, 1, 2] rfl)
        · skip
          rw [if_neg c7] at hq
          refine lv_aload_n hx hb dX4_begins_94 rfl (lv_at hl 0 rfl) ?_
          refine va_get (D := D) (ci := 4) (v := .ref (ad 5)) (C := RX4) (T := TX4) (N := 39) hx hb hts kin_X4_begins_X4 hown hK hP 0 rfl rfl 5 (by decide) (hts _ kw_X4_begins__fieldLink_RX4_22_ActHouseModel_longs_I_) (fun _ h9 => h9) rfl dX4_begins_95 ?_
          refine lv_aload_n hx hb dX4_begins_98 rfl (lv_at hl 0 rfl) ?_
          refine va_get (D := D) (ci := 4) (v := .ref (ad 8)) (C := RX4) (T := TX4) (N := 39) hx hb hts kin_X4_begins_X4 hown hK hP 0 rfl rfl 8 (by decide) (hts _ kw_X4_begins__fieldLink_RX4_28_ActHouseModel_program_I_) (fun _ h9 => h9) rfl dX4_begins_99 ?_
          refine lv_iload_n hx hb dX4_begins_102 rfl (lv_at hl 3 rfl) ?_
          refine va_iald hx hb hK hP 7 0 (f := (M.2.1 8)) rfl rfl (k_in b5.1 b5.2) dX4_begins_103 ?_
          obtain ⟨b8, hq⟩ := k_if hq
          refine va_iald hx hb hK hP 5 0 (f := (M.2.1 5)) rfl rfl (k_in b8.1 b8.2) dX4_begins_104 ?_
          refine lv_if_ne (tgt := 111) hx hb dX4_begins_105 (by decide) (fun c9 => ?_) (fun c9 => ?_)
          · skip
            rw [if_neg c9] at hq
            refine lv_aload_n hx hb dX4_begins_111 rfl (lv_at hl 0 rfl) ?_
            refine lv_iload_n hx hb dX4_begins_112 rfl (lv_at hl 3 rfl) ?_
            obtain ⟨r10, M10, h10, hq⟩ := k_bd hq
            have hFc := k_free hD hS hA
            refine va_callv (va_runV (As := [.int v3]) (rest := []) ⟨hx, hb, hml, hown, hts⟩ (c_X4_clears (l := l) (D := D) (cI := cI) (cZ := cZ) (h := h) (ad := ad)  (hf := h10)) (cwV 1 hts gX4_begins_X4_clears rfl rfl rfl (by decide +kernel) ⟨Nat.le_of_ble_eq_true rfl, Nat.le_of_ble_eq_true rfl⟩) ⟨k_blind, va_recv hK hP (ci := 4) (q0 := 0) rfl rfl, fun U hU hW => ⟨rfl, k_pre hU hW hP hK hD⟩⟩ rfl rfl hl.1 rfl (lv_room (Nat.le_of_ble_eq_true rfl)) dX4_begins_113 ⟨by show (M.2.2 - M0.2.2) / 4000 + 0 ≤ (2048000 - M0.2.2) / 4000; omega, by show 2 * (M.2.2 - M0.2.2) + 0 ≤ 2 * (2048000 - M0.2.2); omega⟩) hS (fun q _ h => hFc q h) hFc (fun u t H1 locs ht hvm hw hB hz1 hk1 hS => ?_)
            obtain ⟨rfl, hg10⟩ := hw
            have hg10 : M10.2.2 = M.2.2 := hg10
            refine W.widen (k := ((M10.2.2 - M0.2.2) / 4000)) (n := (2 * (M10.2.2 - M0.2.2))) (by omega) (by omega) ?_
            obtain ⟨hP1, hK1, hD1⟩ := hB
            rw [ht] at hP1
            have hP := hP1
            have hD := k_weak hD1 hFc
            generalize H1 = H at hP hS ⊢
            have hP : va_P D vwCl (mW cI cZ h ad M10) _ := hP
            have hD : va_D A (mW cI cZ h ad M10) := hD
            refine lv_aload_n hx hb dX4_begins_116 rfl (lv_at hl 0 rfl) ?_
            refine va_get (D := D) (ci := 4) (v := .ref (ad 11)) (C := RX4) (T := TX4) (N := 39) hx hb hts kin_X4_begins_X4 hown hK hP 0 rfl rfl 11 (by decide) (hts _ kw_X4_begins__fieldLink_RX4_37_ActHouseModel_state_I_) (fun _ h9 => h9) rfl dX4_begins_117 ?_
            refine lv_iload_n hx hb dX4_begins_120 rfl (lv_at hl 3 rfl) ?_
            refine lv_iconst (v := 1) hx hb dX4_begins_121 (by decide) ?_
            refine va_iast hx hb hK hP hD hS 10 0 (f := (M10.2.1 11)) rfl rfl (x := 1) (k_in b5.1 b5.2) dX4_begins_122 (fun H locs hP hD hS => ?_)
            obtain ⟨M11, eM11, hg11, hq⟩ := k_lA hq
            rw [mW_A11, ← eM11] at hP hD
            have hP : va_P D vwCl (mW cI cZ h ad M11) _ := hP
            have hD : va_D A (mW cI cZ h ad M11) := hD
            refine W.widen (k := ((M11.2.2 - M0.2.2) / 4000)) (n := (2 * (M11.2.2 - M0.2.2))) (by omega) (by omega) ?_
            refine lv_aload_n hx hb dX4_begins_123 rfl (lv_at hl 0 rfl) ?_
            refine va_get (D := D) (ci := 4) (v := .ref (ad 20)) (C := RX4) (T := TX4) (N := 39) hx hb hts kin_X4_begins_X4 hown hK hP 0 rfl rfl 20 (by decide) (hts _ kw_X4_begins__fieldLink_RX4_65_ActHouseModel_begunIn_I_) (fun _ h9 => h9) rfl dX4_begins_124 ?_
            refine lv_iload_n hx hb dX4_begins_127 rfl (lv_at hl 3 rfl) ?_
            refine lv_aload_n hx hb dX4_begins_128 rfl (lv_at hl 0 rfl) ?_
            refine va_get (D := D) (ci := 4) (v := .int (M11.1 0)) (C := RX4) (T := TX4) (N := 39) hx hb hts kin_X4_begins_X4 hown hK hP 0 rfl rfl 0 (by decide) (hts _ kw_X4_begins__fieldLink_RX4_130_ActHouseModel_now_I_) (fun _ h9 => h9) rfl dX4_begins_129 ?_
            refine va_iast hx hb hK hP hD hS 19 0 (f := (M11.2.1 20)) rfl rfl (x := (M11.1 0)) (k_in b5.1 b5.2) dX4_begins_132 (fun H locs hP hD hS => ?_)
            obtain ⟨M12, eM12, hg12, hq⟩ := k_lA hq
            rw [mW_A20, ← eM12] at hP hD
            have hP : va_P D vwCl (mW cI cZ h ad M12) _ := hP
            have hD : va_D A (mW cI cZ h ad M12) := hD
            refine W.widen (k := ((M12.2.2 - M0.2.2) / 4000)) (n := (2 * (M12.2.2 - M0.2.2))) (by omega) (by omega) ?_
            refine lv_aload_n hx hb dX4_begins_133 rfl (lv_at hl 0 rfl) ?_
            refine va_get (D := D) (ci := 4) (v := .ref (ad 12)) (C := RX4) (T := TX4) (N := 39) hx hb hts kin_X4_begins_X4 hown hK hP 0 rfl rfl 12 (by decide) (hts _ kw_X4_begins__fieldLink_RX4_40_ActHouseModel_actLong_I_) (fun _ h9 => h9) rfl dX4_begins_134 ?_
            refine lv_iload_n hx hb dX4_begins_137 rfl (lv_at hl 3 rfl) ?_
            refine lv_aload_n hx hb dX4_begins_138 rfl (lv_at hl 0 rfl) ?_
            refine va_get (D := D) (ci := 4) (v := .ref (ad 5)) (C := RX4) (T := TX4) (N := 39) hx hb hts kin_X4_begins_X4 hown hK hP 0 rfl rfl 5 (by decide) (hts _ kw_X4_begins__fieldLink_RX4_22_ActHouseModel_longs_I_) (fun _ h9 => h9) rfl dX4_begins_139 ?_
            refine lv_aload_n hx hb dX4_begins_142 rfl (lv_at hl 0 rfl) ?_
            refine va_get (D := D) (ci := 4) (v := .ref (ad 8)) (C := RX4) (T := TX4) (N := 39) hx hb hts kin_X4_begins_X4 hown hK hP 0 rfl rfl 8 (by decide) (hts _ kw_X4_begins__fieldLink_RX4_28_ActHouseModel_program_I_) (fun _ h9 => h9) rfl dX4_begins_143 ?_
            refine lv_iload_n hx hb dX4_begins_146 rfl (lv_at hl 3 rfl) ?_
            refine va_iald hx hb hK hP 7 0 (f := (M12.2.1 8)) rfl rfl (k_in b5.1 b5.2) dX4_begins_147 ?_
            obtain ⟨b13, hq⟩ := k_if hq
            refine va_iald hx hb hK hP 5 0 (f := (M12.2.1 5)) rfl rfl (k_in b13.1 b13.2) dX4_begins_148 ?_
            refine va_iast hx hb hK hP hD hS 11 0 (f := (M12.2.1 12)) rfl rfl (x := ((M12.2.1 5) ((M12.2.1 8) v3.toNatClampNeg).toNatClampNeg)) (k_in b5.1 b5.2) dX4_begins_149 (fun H locs hP hD hS => ?_)
            obtain ⟨M14, eM14, hg14, hq⟩ := k_lA hq
            rw [mW_A12, ← eM14] at hP hD
            have hP : va_P D vwCl (mW cI cZ h ad M14) _ := hP
            have hD : va_D A (mW cI cZ h ad M14) := hD
            refine W.widen (k := ((M14.2.2 - M0.2.2) / 4000)) (n := (2 * (M14.2.2 - M0.2.2))) (by omega) (by omega) ?_
            refine lv_iconst (v := 0) hx hb dX4_begins_150 (by decide) ?_
            refine lv_istore (lv' := [(5, .int 0), (0, .ref h), (1, .int v1), (2, .int v2), (3, .int v3), (4, .int v4)]) hx hb dX4_begins_151 hl (by decide) rfl (fun ls hl => ?_)
            exact B153 K8 hK8 200 v1 v2 v3 (0 : Int32) M14 ad _ _ _ hq (by show M0.2.2 ≤ M14.2.2 ∧ M14.2.2 ≤ 2048000; omega) hP hD hS (lv_sub hl [1, 2, 3, 4, 0] rfl)
          · skip
            rw [if_pos c9] at hq
            refine lv_goto (tgt := 202) hx hb dX4_begins_108 (by decide) ?_
            exact B202 K8 hK8 v1 v2 M ad _ _ _ hq (by show M0.2.2 ≤ M.2.2 ∧ M.2.2 ≤ 2048000; omega) hP hD hS (lv_sub hl [0, 1, 2] rfl)
      · skip
        rw [if_neg c4] at hq
        refine lv_iload hx hb dX4_begins_35 (lv_at hl 4 rfl) ?_
        refine lv_aload_n hx hb dX4_begins_37 rfl (lv_at hl 0 rfl) ?_
        refine va_get (D := D) (ci := 4) (v := .ref (ad 11)) (C := RX4) (T := TX4) (N := 39) hx hb hts kin_X4_begins_X4 hown hK hP 0 rfl rfl 11 (by decide) (hts _ kw_X4_begins__fieldLink_RX4_37_ActHouseModel_state_I_) (fun _ h9 => h9) rfl dX4_begins_38 ?_
        refine lv_iload hx hb dX4_begins_41 (lv_at hl 5 rfl) ?_
        obtain ⟨b21, hq⟩ := k_if hq
        refine va_iald hx hb hK hP 10 0 (f := (M.2.1 11)) rfl rfl (k_in b21.1 b21.2) dX4_begins_43 ?_
        refine lv_iconst (v := 1) hx hb dX4_begins_44 (by decide) ?_
        refine lv_icmp_ne (tgt := 68) hx hb dX4_begins_45 (by decide) (fun c22 => ?_) (fun c22 => ?_)
        · skip
          rw [if_neg c22] at hq
          exact B68 K8 hK8 (fun (v1 : Int32) (v2 : Int32) (v3 : Int32) (v4 : Int32) (v5 : Int32) (M : MS) => f_X4_begins_26 K8 k v1 v2 v3 v4 v5 M) ih v1 v2 v3 v5 v4 M ad _ _ _ hq (by show M0.2.2 ≤ M.2.2 ∧ M.2.2 ≤ 2048000; omega) hP hD hS (lv_sub hl [0, 1, 2, 3, 5] rfl)
        · skip
          rw [if_pos c22] at hq
          refine lv_aload_n hx hb dX4_begins_48 rfl (lv_at hl 0 rfl) ?_
          refine va_get (D := D) (ci := 4) (v := .ref (ad 9)) (C := RX4) (T := TX4) (N := 39) hx hb hts kin_X4_begins_X4 hown hK hP 0 rfl rfl 9 (by decide) (hts _ kw_X4_begins__fieldLink_RX4_31_ActHouseModel_kind_I_) (fun _ h9 => h9) rfl dX4_begins_49 ?_
          refine lv_iload hx hb dX4_begins_52 (lv_at hl 5 rfl) ?_
          refine va_iald hx hb hK hP 8 0 (f := (M.2.1 9)) rfl rfl (k_in b21.1 b21.2) dX4_begins_54 ?_
          refine lv_aload_n hx hb dX4_begins_55 rfl (lv_at hl 0 rfl) ?_
          refine va_get (D := D) (ci := 4) (v := .ref (ad 9)) (C := RX4) (T := TX4) (N := 39) hx hb hts kin_X4_begins_X4 hown hK hP 0 rfl rfl 9 (by decide) (hts _ kw_X4_begins__fieldLink_RX4_31_ActHouseModel_kind_I_) (fun _ h9 => h9) rfl dX4_begins_56 ?_
          refine lv_iload_n hx hb dX4_begins_59 rfl (lv_at hl 3 rfl) ?_
          obtain ⟨b23, hq⟩ := k_if hq
          refine va_iald hx hb hK hP 8 0 (f := (M.2.1 9)) rfl rfl (k_in b23.1 b23.2) dX4_begins_60 ?_
          refine lv_icmp_ne (tgt := 68) hx hb dX4_begins_61 (by decide) (fun c24 => ?_) (fun c24 => ?_)
          · skip
            rw [if_neg c24] at hq
            exact B68 K8 hK8 (fun (v1 : Int32) (v2 : Int32) (v3 : Int32) (v4 : Int32) (v5 : Int32) (M : MS) => f_X4_begins_26 K8 k v1 v2 v3 v4 v5 M) ih v1 v2 v3 v5 v4 M ad _ _ _ hq (by show M0.2.2 ≤ M.2.2 ∧ M.2.2 ≤ 2048000; omega) hP hD hS (lv_sub hl [0, 1, 2, 3, 5] rfl)
          · skip
            rw [if_pos c24] at hq
            refine lv_iconst (v := 1) hx hb dX4_begins_64 (by decide) ?_
            refine lv_goto (tgt := 69) hx hb dX4_begins_65 (by decide) ?_
            exact B69 K8 hK8 (fun (v1 : Int32) (v2 : Int32) (v3 : Int32) (v4 : Int32) (v5 : Int32) (M : MS) => f_X4_begins_26 K8 k v1 v2 v3 v4 v5 M) ih v1 v2 v3 v5 (1 : Int32) v4 M ad _ _ _ hq (by show M0.2.2 ≤ M.2.2 ∧ M.2.2 ≤ 2048000; omega) hP hD hS (lv_sub hl [0, 1, 2, 3, 5] rfl)
  have B8 : ∀  (k : Nat), ∀ (v1 : Int32) (v2 : Int32)  (M : MS) (ad : Nat → Nat) (H : Heap) (locs : List Loc) (ls : Array Slot), f_X4_begins_8  k v1 v2 M = some (r', M') → (M0.2.2 ≤ M.2.2 ∧ M.2.2 ≤ 2048000) → va_P D vwCl (mW cI cZ h ad M) H → va_D A (mW cI cZ h ad M) → va_S A s.heap H locs → lv_has ls 6 [(0, .ref h), (1, .int v1), (2, .int v2)] → W p l e (headSpec wsX4_begins ({ frames := 2, cells := (2048000 - M0.2.2) / 4000, slots := 2 * (2048000 - M0.2.2), locals := 46 })).room s m ([.ref h] : List Value).toArray below meth c H locs (((M.2.2 - M0.2.2) / 4000)) ((2 * (M.2.2 - M0.2.2))) Q (F0 m 8 ls []) := by
    intro  k
    induction k with
    | zero =>
      intro v1 v2  M ad H locs ls hq hg hP hD hS hl
      exact absurd hq (by rw [f_X4_begins_8]; exact k_non)
    | succ k ih =>
      intro v1 v2  M ad H locs ls hq hg hP hD hS hl
      rw [f_X4_begins_8] at hq
      refine lv_iload_n hx hb dX4_begins_8 rfl (lv_at hl 2 rfl) ?_
      refine lv_iload_n hx hb dX4_begins_9 rfl (lv_at hl 1 rfl) ?_
      refine lv_icmp_ge (tgt := 208) hx hb dX4_begins_10 (by decide) (fun c2 => ?_) (fun c2 => ?_)
      · skip
        rw [if_pos c2] at hq
        obtain ⟨e2, e3⟩ := k_so hq
        subst hQ
        have hP : va_P D vwCl (mW cI cZ h ad M) _ := hP
        have hD : va_D A (mW cI cZ h ad M) := hD
        have hgE := congrArg (fun X : MS => X.2.2) e3
        have hgE : M.2.2 = M'.2.2 := hgE
        refine k_facts (fun hm1 hm2 hm3 => ?_)
        refine W.widen (k := (2048000 - M0.2.2) / 4000) (n := 2 * (2048000 - M0.2.2)) (by omega) (by omega) ?_
        exact W.vret hx hb hr (fun t ht hW => ⟨⟨(mW cI cZ h ad M, [(cI, .int), (cZ, .boolean)]), rfl, ⟨ad, (congrArg (fun X : MS => ((mW cI cZ h ad X, [(cI, .int), (cZ, .boolean)]) : va_W × List (ClassId × FieldType))) e3), by omega, by omega⟩, ⟨⟨by rw [ht]; exact hP, va_K.moved hW.alike hK, hD⟩, by rw [ht]; exact hm3, by rw [ht]; omega, by rw [ht]; omega⟩⟩, hS.F ht⟩) hS.2.2 dX4_begins_208
      · skip
        rw [if_neg c2] at hq
        refine lv_aload_n hx hb dX4_begins_13 rfl (lv_at hl 0 rfl) ?_
        refine va_get (D := D) (ci := 4) (v := .ref (ad 36)) (C := RX4) (T := TX4) (N := 39) hx hb hts kin_X4_begins_X4 hown hK hP 0 rfl rfl 36 (by decide) (hts _ kw_X4_begins__fieldLink_RX4_98_ActHouseModel_order_I_) (fun _ h9 => h9) rfl dX4_begins_14 ?_
        refine lv_iload_n hx hb dX4_begins_17 rfl (lv_at hl 2 rfl) ?_
        obtain ⟨b3, hq⟩ := k_if hq
        refine va_iald hx hb hK hP 30 0 (f := (M.2.1 36)) rfl rfl (k_in b3.1 b3.2) dX4_begins_18 ?_
        refine lv_istore_n (lv' := [(3, .int ((M.2.1 36) v2.toNatClampNeg)), (0, .ref h), (1, .int v1), (2, .int v2)]) hx hb dX4_begins_19 rfl hl (by decide) rfl (fun ls hl => ?_)
        refine lv_iconst (v := 0) hx hb dX4_begins_20 (by decide) ?_
        refine lv_istore (lv' := [(4, .int 0), (3, .int ((M.2.1 36) v2.toNatClampNeg)), (0, .ref h), (1, .int v1), (2, .int v2)]) hx hb dX4_begins_21 hl (by decide) rfl (fun ls hl => ?_)
        refine lv_iconst (v := 0) hx hb dX4_begins_23 (by decide) ?_
        refine lv_istore (lv' := [(5, .int 0), (4, .int 0), (3, .int ((M.2.1 36) v2.toNatClampNeg)), (0, .ref h), (1, .int v1), (2, .int v2)]) hx hb dX4_begins_24 hl (by decide) rfl (fun ls hl => ?_)
        exact B26 (fun (v1 : Int32) (v2 : Int32) (M : MS) => f_X4_begins_8  k v1 v2 M) ih 200 v1 v2 ((M.2.1 36) v2.toNatClampNeg) (0 : Int32) (0 : Int32) M ad _ _ _ hq (by show M0.2.2 ≤ M.2.2 ∧ M.2.2 ≤ 2048000; omega) hP hD hS (lv_sub hl [3, 4, 5, 2, 1, 0] rfl)
  refine W.widen (k := ((M0.2.2 - M0.2.2) / 4000)) (n := (2 * (M0.2.2 - M0.2.2))) (by omega) (by omega) ?_
  have hq := hf
  rw [f_X4_begins] at hq
  refine lv_aload_n hx hb dX4_begins_0 rfl (lv_at hl 0 rfl) ?_
  refine lv_iconst (v := 0) hx hb dX4_begins_1 (by decide) ?_
  obtain ⟨q1, M1, h1, hq⟩ := k_bd hq
  have hFc := k_free hD hS hA
  refine va_calli (va_runV (As := [.int 0]) (rest := []) ⟨hx, hb, hml, hown, hts⟩ (c_X4_sorts (l := l) (D := D) (cI := cI) (cZ := cZ) (h := h) (ad := ad)  (hf := h1)) (cwV 1 hts gX4_begins_X4_sorts rfl rfl rfl (by decide +kernel) ⟨Nat.le_of_ble_eq_true rfl, Nat.le_of_ble_eq_true rfl⟩) ⟨k_blind, va_recv hK hP (ci := 4) (q0 := 0) rfl rfl, fun U hU hW => ⟨rfl, k_pre hU hW hP hK hD⟩⟩ rfl rfl hl.1 rfl (lv_room (Nat.le_of_ble_eq_true rfl)) dX4_begins_2 ⟨by show (M0.2.2 - M0.2.2) / 4000 + 0 ≤ (2048000 - M0.2.2) / 4000; omega, by show 2 * (M0.2.2 - M0.2.2) + 0 ≤ 2 * (2048000 - M0.2.2); omega⟩) hS (fun q _ h => hFc q h) hFc (fun r1 u t H1 locs ht hvm hw hB hz1 hk1 hS => ?_)
  obtain ⟨rfl, rfl, hg1⟩ := hw
  have hg1 : M1.2.2 = M0.2.2 := hg1
  refine W.widen (k := ((M1.2.2 - M0.2.2) / 4000)) (n := (2 * (M1.2.2 - M0.2.2))) (by omega) (by omega) ?_
  obtain ⟨hP1, hK1, hD1⟩ := hB
  rw [ht] at hP1
  have hP := hP1
  have hD := k_weak hD1 hFc
  generalize H1 = H at hP hS ⊢
  have hP : va_P D vwCl (mW cI cZ h ad M1) _ := hP
  have hD : va_D A (mW cI cZ h ad M1) := hD
  refine lv_istore_n (lv' := [(1, .int r1), (0, .ref h)]) hx hb dX4_begins_5 rfl hl (by decide) rfl (fun ls hl => ?_)
  refine lv_iconst (v := 0) hx hb dX4_begins_6 (by decide) ?_
  refine lv_istore_n (lv' := [(2, .int 0), (1, .int r1), (0, .ref h)]) hx hb dX4_begins_7 rfl hl (by decide) rfl (fun ls hl => ?_)
  exact B8  200 r1 (0 : Int32) M1 ad _ _ _ hq (by show M0.2.2 ≤ M1.2.2 ∧ M1.2.2 ≤ 2048000; omega) hP hD hS (lv_sub hl [2, 1, 0] rfl)
