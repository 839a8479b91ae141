set_option maxRecDepth 100000 in
theorem kw_X3_perform__fieldLink_RX3_27_ActHouse_acts_LActHouse_Act_ : (.fieldLink RX3 27 "ActHouse" "acts" "[LActHouse$Act;" : Cond) ∈ wsX3_perform := by decide +kernel
set_option maxRecDepth 100000 in
theorem kin_X3_perform_X3 : ∀ w ∈ u_ws RX3 TX3 18, w ∈ wsX3_perform := by decide +kernel
set_option maxRecDepth 100000 in
theorem kw_X3_perform__fieldLink_RX3_148_ActHouse_Act_register_I_ : (.fieldLink RX3 148 "ActHouse$Act" "register" "I" : Cond) ∈ wsX3_perform := by decide +kernel
set_option maxRecDepth 100000 in
theorem kin_X3_perform_X0 : ∀ w ∈ u_ws RX0 TX0 20, w ∈ wsX3_perform := by decide +kernel
set_option maxRecDepth 100000 in
theorem kw_X3_perform__fieldLink_RX3_46_ActHouse_book_LActHouse_LogBook_ : (.fieldLink RX3 46 "ActHouse" "book" "LActHouse$LogBook;" : Cond) ∈ wsX3_perform := by decide +kernel
set_option maxRecDepth 100000 in
theorem kw_X3_perform__fieldLink_RX3_79_ActHouse_now_I_ : (.fieldLink RX3 79 "ActHouse" "now" "I" : Cond) ∈ wsX3_perform := by decide +kernel
set_option maxRecDepth 100000 in
theorem kw_X3_perform__fieldLink_RX3_129_ActHouse_Act_at_I_ : (.fieldLink RX3 129 "ActHouse$Act" "at" "I" : Cond) ∈ wsX3_perform := by decide +kernel
def f_X3_perform (x1 : Int32) (x2 : Int32) (C0 : CS) : Option (Int32 × CS) := (if (0 ≤ x1.toInt ∧ x1.toInt < 80) ∧ x1.toNatClampNeg < gN C0 then (if (f_X3_opOf x2).toInt = 0 then (k_bind (f_X0_lockToRead x1.toNatClampNeg (f_X3_aOf x2) C0) fun r6 C6 => (k_bind (f_X3_seenBy x1.toNatClampNeg (f_X3_aOf x2) C6) fun r7 C7 => (k_bind (f_X0_load x1.toNatClampNeg r7 C7) fun r8 C8 => (if r8 &&& 1 = r8 then some (r8, C8) else none)))) else (if (f_X3_opOf x2).toInt = 1 then (k_bind (f_X0_load x1.toNatClampNeg ((f_X3_bOf x2) - 50) C0) fun r10 C10 => (if r10 &&& 1 = r10 then some (r10, C10) else none)) else (if (f_X3_opOf x2).toInt = 2 then (k_bind (f_X0_load x1.toNatClampNeg (((gP C0 x1.toNatClampNeg 13) + (f_X3_bOf x2)) - 50) C0) fun r12 C12 => (if r12 &&& 1 = r12 then some (r12, C12) else none)) else (if (f_X3_opOf x2).toInt = 3 then (k_bind (f_X0_put x1.toNatClampNeg (f_X3_aOf x2) C0) fun r14 C14 => (k_bind (f_X1_write (1 : Int32) x1 (f_X3_aOf x2) (C14.1 15) C14) fun r15 C15 => some ((1 : Int32), C15))) else (if (f_X3_opOf x2).toInt = 4 then (k_bind (f_X0_lockToRead x1.toNatClampNeg (f_X3_aOf x2) C0) fun r16 C16 => (k_bind (f_X3_seenBy x1.toNatClampNeg (f_X3_aOf x2) C16) fun r17 C17 => (k_bind (f_X0_load x1.toNatClampNeg ((gP C16 x1.toNatClampNeg 13) + r17) C17) fun r18 C18 => (if r18 &&& 1 = r18 then some (r18, C18) else none)))) else (if (f_X3_opOf x2).toInt = 5 then (if (gP C0 x1.toNatClampNeg 13) < 0 then some ((0 : Int32), C0) else some ((1 : Int32), C0)) else (if (f_X3_opOf x2).toInt = 6 then (k_bind (f_X0_give x1.toNatClampNeg (f_X3_aOf x2) ((f_X3_bOf x2) - 50) C0) fun r21 C21 => some ((1 : Int32), C21)) else (if (f_X3_opOf x2).toInt = 7 then (k_bind (f_X0_enqueue x1.toNatClampNeg (f_X3_aOf x2) C0) fun r22 C22 => some ((1 : Int32), C22)) else (if (f_X3_opOf x2).toInt = 8 then (if 0 ≤ (gP C0 x1.toNatClampNeg 13) then (k_let (cP C0 x1.toNatClampNeg 14 ((gP C0 x1.toNatClampNeg 14) + 0)) fun C24 => some ((1 : Int32), C24)) else (k_let (cP C0 x1.toNatClampNeg 14 ((gP C0 x1.toNatClampNeg 14) + (f_X3_bOf x2))) fun C25 => some ((1 : Int32), C25))) else some ((1 : Int32), C0)))))))))) else none)
set_option maxHeartbeats 4000000 in
set_option maxRecDepth 100000 in
theorem c_X3_perform {l : Launch} {D : va_G} {hp : Heap} {cI cJ cO : ClassId} {h : Nat} {xa : Nat → Nat} {ea0 : Nat} {pa0 : Nat → Nat → Nat} {C0 C' : CS} {x1 x2 r' : Int32} (hg : gN C0 ≤ 80 ∧ gE C0 ≤ 1048576) (hf : f_X3_perform x1 x2 C0 = some (r', C')) : Met l yX3_perform wsX3_perform ({ frames := 3, cells := 7 * (80 - gN C0) + (1048576 - gE C0) / 256, slots := 108 * (80 - gN C0) + 2 * (1048576 - gE C0), locals := 86 }) (va_Pc [.ref h, .int x1, .int x2] (k_PreH D [(cI, .int), (cO, .object RX0), (cJ, .long)] (cW cI cJ cO h xa ea0 pa0 C0) hp)) (va_Qi (fun (r0 : Int32) (u : va_W × List (ClassId × FieldType)) => ∃ (ea' : Nat) (pa' : Nat → Nat → Nat), r0 = r' ∧ u = (cW cI cJ cO h xa ea' pa' C', [(cI, .int), (cO, .object RX0), (cJ, .long)]) ∧ (gN C0 ≤ gN C' ∧ gN C' ≤ 80 ∧ gE C0 ≤ gE C' ∧ gE C' ≤ 1048576) ∧ ∀ n, n < gN C0 → pa' n = pa0 n) (k_BM D (va_A (cW cI cJ cO h xa ea0 pa0 C0) hp.size) hp (7 * (gN C' - gN C0) + (gE C' - gE C0) / 256) (108 * (gN C' - gN C0) + 2 * (gE C' - gE C0))) (va_A (cW cI cJ cO h xa ea0 pa0 C0) hp.size)) (7 * (80 - gN C0) + (1048576 - gE C0) / 256) (108 * (80 - gN C0) + 2 * (1048576 - gE C0)) (va_A (cW cI cJ cO h xa ea0 pa0 C0) hp.size) := by
  refine Met.ofW (cc := cX3_perform) (maxL := 6) (ret := (some .boolean)) (by decide) rfl ?_
  intro p e s m args below meth c s₁ B hml hv
  obtain ⟨rfl, hsz, hP, hK, hD0⟩ := hv
  have hx := B.exec
  have hb := B.bytes
  have hr := B.returns
  have hts := atoms_spec (ws := wsX3_perform) B.pre
  have hown : s.vm.findClass RX3 = some m.cls := findClass_of_methodNamed B.named
  have hlocks := B.notSynchronized
  have hsz : s.heap = hp := hsz
  subst hsz
  have hD := hD0.self (sz := s.heap.size)
  generalize hAe : va_A (cW cI cJ cO h xa ea0 pa0 C0) s.heap.size = A at hD ⊢
  have hA : ∀ q : Nat, s.heap.size ≤ q → A q := fun q h => by rw [← hAe]; exact Or.inr h
  have hS : va_S A s.heap s.heap [] := va_S.rf
  have hl := lv_entry ([.ref h, .int x1, .int x2]) (n := 6) (Nat.le_of_ble_eq_true rfl)
  rw [lg_entry_eq]
  generalize (lg_sl ([.ref h, .int x1, .int x2]) ++ List.replicate (6 - (lg_sl ([.ref h, .int x1, .int x2])).length) Slot.unset).toArray = ls at hl ⊢
  have hl : lv_has ls 6 [(0, .ref h), (1, .int x1), (2, .int x2)] := hl
  refine k_Q (fun Q hQ => ?_)
  refine W.widen (k := (7 * (gN C0 - gN C0) + (gE C0 - gE C0) / 256)) (n := (108 * (gN C0 - gN C0) + 2 * (gE C0 - gE C0))) (by omega) (by omega) ?_
  have hpa : ∀ n, n < gN C0 → pa0 n = pa0 n := fun _ _ => rfl
  have hq := hf
  rw [f_X3_perform] at hq
  refine lv_aload_n hx hb dX3_perform_0 rfl (lv_at hl 0 rfl) ?_
  refine va_get (D := D) (ci := 3) (v := .ref (xa 5)) (C := RX3) (T := TX3) (N := 18) hx hb hts kin_X3_perform_X3 hown hK hP 0 rfl rfl 5 (by decide) (hts _ kw_X3_perform__fieldLink_RX3_27_ActHouse_acts_LActHouse_Act_) (fun _ h9 => h9) rfl dX3_perform_1 ?_
  refine lv_iload_n hx hb dX3_perform_4 rfl (lv_at hl 1 rfl) ?_
  obtain ⟨b1, hq⟩ := k_if hq
  refine va_aldq hx hb hK hP 6 1 (f := cActs pa0 (gN C0)) rfl rfl (k_in b1.1.1 b1.1.2) dX3_perform_5 ?_
  refine W.eq (g2 := F0 m 6 ls [.ref (pa0 x1.toNatClampNeg 0)]) (by rw [cActs_lt b1.2]; rfl) ?_
  refine lv_astore_n (lv' := [(3, .ref (pa0 x1.toNatClampNeg 0)), (0, .ref h), (1, .int x1), (2, .int x2)]) hx hb dX3_perform_6 rfl hl (by decide) rfl (fun ls hl => ?_)
  refine lv_iload_n hx hb dX3_perform_7 rfl (lv_at hl 3 rfl) ?_
  have hFc := k_free hD hS hA
  refine va_calli (va_runS (As := [.int x2]) (rest := []) ⟨hx, hb, hml, hown, hts⟩ (c_X3_aOf (l := l) (D := D) (cI := cI) (cJ := cJ) (cO := cO) (h := h) (xa := xa) (ea0 := ea0) (pa0 := pa0) (C0 := C0) (hf := rfl)) (va_cwS 1 hts gX3_perform_X3_aOf rfl rfl rfl (by decide +kernel) ⟨Nat.le_of_ble_eq_true rfl, Nat.le_of_ble_eq_true rfl⟩) ⟨k_blind, fun U hU hW => ⟨rfl, k_pre hU hW hP hK hD⟩⟩ rfl rfl hl.1 rfl (lv_room (Nat.le_of_ble_eq_true rfl)) dX3_perform_8 ⟨by show (7 * (gN C0 - gN C0) + (gE C0 - gE C0) / 256) + 0 ≤ 7 * (80 - gN C0) + (1048576 - gE C0) / 256; omega, by show (108 * (gN C0 - gN C0) + 2 * (gE C0 - gE C0)) + 0 ≤ 108 * (80 - gN C0) + 2 * (1048576 - gE C0); omega⟩) hS (fun q _ h => hFc q h) hFc (fun r2 u t H1 locs ht hvm hw hB hz1 hk1 hS => ?_)
  obtain ⟨rfl, rfl⟩ := hw
  refine W.widen (k := (7 * (gN C0 - gN C0) + (gE C0 - gE C0) / 256)) (n := (108 * (gN C0 - gN C0) + 2 * (gE C0 - gE C0))) (by omega) (by omega) ?_
  obtain ⟨hP1, hK1, hD1⟩ := hB
  rw [ht] at hP1
  have hP := hP1
  have hD := k_weak hD1 hFc
  generalize H1 = H at hP hS ⊢
  have hP : va_P D vwCl (cW cI cJ cO h xa ea0 pa0 C0) _ := hP
  have hD : va_D A (cW cI cJ cO h xa ea0 pa0 C0) := hD
  refine lv_istore (lv' := [(4, .int (f_X3_aOf x2)), (3, .ref (pa0 x1.toNatClampNeg 0)), (0, .ref h), (1, .int x1), (2, .int x2)]) hx hb dX3_perform_11 hl (by decide) rfl (fun ls hl => ?_)
  refine lv_iload_n hx hb dX3_perform_13 rfl (lv_at hl 4 rfl) ?_
  have hFc := k_free hD hS hA
  refine va_calli (va_runS (As := [.int x2]) (rest := []) ⟨hx, hb, hml, hown, hts⟩ (c_X3_bOf (l := l) (D := D) (cI := cI) (cJ := cJ) (cO := cO) (h := h) (xa := xa) (ea0 := ea0) (pa0 := pa0) (C0 := C0) (hf := rfl)) (va_cwS 1 hts gX3_perform_X3_bOf rfl rfl rfl (by decide +kernel) ⟨Nat.le_of_ble_eq_true rfl, Nat.le_of_ble_eq_true rfl⟩) ⟨k_blind, fun U hU hW => ⟨rfl, k_pre hU hW hP hK hD⟩⟩ rfl rfl hl.1 rfl (lv_room (Nat.le_of_ble_eq_true rfl)) dX3_perform_14 ⟨by show (7 * (gN C0 - gN C0) + (gE C0 - gE C0) / 256) + 0 ≤ 7 * (80 - gN C0) + (1048576 - gE C0) / 256; omega, by show (108 * (gN C0 - gN C0) + 2 * (gE C0 - gE C0)) + 0 ≤ 108 * (80 - gN C0) + 2 * (1048576 - gE C0); omega⟩) hS (fun q _ h => hFc q h) hFc (fun r3 u t H1 locs ht hvm hw hB hz1 hk1 hS => ?_)
  obtain ⟨rfl, rfl⟩ := hw
  refine W.widen (k := (7 * (gN C0 - gN C0) + (gE C0 - gE C0) / 256)) (n := (108 * (gN C0 - gN C0) + 2 * (gE C0 - gE C0))) (by omega) (by omega) ?_
  obtain ⟨hP1, hK1, hD1⟩ := hB
  rw [ht] at hP1
  have hP := hP1
  have hD := k_weak hD1 hFc
  generalize H1 = H at hP hS ⊢
  have hP : va_P D vwCl (cW cI cJ cO h xa ea0 pa0 C0) _ := hP
  have hD : va_D A (cW cI cJ cO h xa ea0 pa0 C0) := hD
  refine lv_istore (lv' := [(5, .int (f_X3_bOf x2)), (4, .int (f_X3_aOf x2)), (3, .ref (pa0 x1.toNatClampNeg 0)), (0, .ref h), (1, .int x1), (2, .int x2)]) hx hb dX3_perform_17 hl (by decide) rfl (fun ls hl => ?_)
  refine lv_iload_n hx hb dX3_perform_19 rfl (lv_at hl 5 rfl) ?_
  have hFc := k_free hD hS hA
  refine va_calli (va_runS (As := [.int x2]) (rest := []) ⟨hx, hb, hml, hown, hts⟩ (c_X3_opOf (l := l) (D := D) (cI := cI) (cJ := cJ) (cO := cO) (h := h) (xa := xa) (ea0 := ea0) (pa0 := pa0) (C0 := C0) (hf := rfl)) (va_cwS 1 hts gX3_perform_X3_opOf rfl rfl rfl (by decide +kernel) ⟨Nat.le_of_ble_eq_true rfl, Nat.le_of_ble_eq_true rfl⟩) ⟨k_blind, fun U hU hW => ⟨rfl, k_pre hU hW hP hK hD⟩⟩ rfl rfl hl.1 rfl (lv_room (Nat.le_of_ble_eq_true rfl)) dX3_perform_20 ⟨by show (7 * (gN C0 - gN C0) + (gE C0 - gE C0) / 256) + 0 ≤ 7 * (80 - gN C0) + (1048576 - gE C0) / 256; omega, by show (108 * (gN C0 - gN C0) + 2 * (gE C0 - gE C0)) + 0 ≤ 108 * (80 - gN C0) + 2 * (1048576 - gE C0); omega⟩) hS (fun q _ h => hFc q h) hFc (fun r4 u t H1 locs ht hvm hw hB hz1 hk1 hS => ?_)
  obtain ⟨rfl, rfl⟩ := hw
  refine W.widen (k := (7 * (gN C0 - gN C0) + (gE C0 - gE C0) / 256)) (n := (108 * (gN C0 - gN C0) + 2 * (gE C0 - gE C0))) (by omega) (by omega) ?_
  obtain ⟨hP1, hK1, hD1⟩ := hB
  rw [ht] at hP1
  have hP := hP1
  have hD := k_weak hD1 hFc
  generalize H1 = H at hP hS ⊢
  have hP : va_P D vwCl (cW cI cJ cO h xa ea0 pa0 C0) _ := hP
  have hD : va_D A (cW cI cJ cO h xa ea0 pa0 C0) := hD
  by_cases hs5_0 : (f_X3_opOf x2).toInt = 0
  · skip
    rw [if_pos hs5_0] at hq
    refine lv_tableIn (off := 49) (tgt := 72) hx hb dX3_perform_23 (by rw [hs5_0]; decide) (by rw [hs5_0]; decide) (by rw [hs5_0]; rfl) (by decide) ?_
    refine lv_aload_n hx hb dX3_perform_72 rfl (lv_at hl 2 rfl) ?_
    refine lv_iload hx hb dX3_perform_73 (lv_at hl 1 rfl) ?_
    obtain ⟨r6, C6, h6, hq⟩ := k_bd hq
    have hFc := k_free hD hS hA
    refine va_callv (va_runV (As := [.int (f_X3_aOf x2)]) (rest := []) ⟨hx, hb, hml, hown, hts⟩ (c_X0_lockToRead (l := l) (D := D) (cI := cI) (cJ := cJ) (cO := cO) (h := h) (xa := xa) (ea0 := ea0) (pa0 := pa0)  (hn0 := by show x1.toNatClampNeg < gN C0; omega) (hf := h6)) (cwV 1 hts gX3_perform_X0_lockToRead rfl rfl rfl (by decide +kernel) ⟨Nat.le_of_ble_eq_true rfl, Nat.le_of_ble_eq_true rfl⟩) ⟨k_blind, va_recv hK hP (ci := 0) (q0 := (16 + (7 * x1.toNatClampNeg + 0))) rfl (cW_get (show x1.toNatClampNeg < gN C0 from by omega) rfl), fun U hU hW => ⟨rfl, k_pre hU hW hP hK hD⟩⟩ rfl rfl hl.1 rfl (lv_room (Nat.le_of_ble_eq_true rfl)) dX3_perform_75 ⟨by show (7 * (gN C0 - gN C0) + (gE C0 - gE C0) / 256) + 0 ≤ 7 * (80 - gN C0) + (1048576 - gE C0) / 256; omega, by show (108 * (gN C0 - gN C0) + 2 * (gE C0 - gE C0)) + 0 ≤ 108 * (80 - gN C0) + 2 * (1048576 - gE C0); omega⟩) hS (fun q _ h => hFc q h) hFc (fun u t H1 locs ht hvm hw hB hz1 hk1 hS => ?_)
    obtain ⟨rfl, hg6, hh6⟩ := hw
    have hg6 : gN C6 = gN C0 := hg6
    have hh6 : gE C6 = gE C0 := hh6
    refine W.widen (k := (7 * (gN C6 - gN C0) + (gE C6 - gE C0) / 256)) (n := (108 * (gN C6 - gN C0) + 2 * (gE C6 - gE C0))) (by omega) (by omega) ?_
    obtain ⟨hP1, hK1, hD1⟩ := hB
    rw [ht] at hP1
    have hP := hP1
    have hD := k_weak hD1 hFc
    generalize H1 = H at hP hS ⊢
    have hP : va_P D vwCl (cW cI cJ cO h xa ea0 pa0 C6) _ := hP
    have hD : va_D A (cW cI cJ cO h xa ea0 pa0 C6) := hD
    refine lv_aload_n hx hb dX3_perform_78 rfl (lv_at hl 2 rfl) ?_
    refine lv_aload_n hx hb dX3_perform_79 rfl (lv_at hl 3 rfl) ?_
    refine lv_aload_n hx hb dX3_perform_80 rfl (lv_at hl 2 rfl) ?_
    refine lv_iload hx hb dX3_perform_81 (lv_at hl 1 rfl) ?_
    obtain ⟨q7, C7, h7, hq⟩ := k_bd hq
    have hFc := k_free hD hS hA
    refine va_calli (va_runV (As := [.ref (pa0 x1.toNatClampNeg 0), .int (f_X3_aOf x2)]) (rest := [.ref (pa0 x1.toNatClampNeg 0)]) ⟨hx, hb, hml, hown, hts⟩ (c_X3_seenBy (l := l) (D := D) (cI := cI) (cJ := cJ) (cO := cO) (h := h) (xa := xa) (ea0 := ea0) (pa0 := pa0)  (hn1 := by show x1.toNatClampNeg < gN C6; omega) (hf := h7)) (cwV 2 hts gX3_perform_X3_seenBy rfl rfl rfl (by decide +kernel) ⟨Nat.le_of_ble_eq_true rfl, Nat.le_of_ble_eq_true rfl⟩) ⟨k_blind, va_recv hK hP (ci := 3) (q0 := 0) rfl rfl, fun U hU hW => ⟨rfl, k_pre hU hW hP hK hD⟩⟩ rfl rfl hl.1 rfl (lv_room (Nat.le_of_ble_eq_true rfl)) dX3_perform_83 ⟨by show (7 * (gN C6 - gN C0) + (gE C6 - gE C0) / 256) + 0 ≤ 7 * (80 - gN C0) + (1048576 - gE C0) / 256; omega, by show (108 * (gN C6 - gN C0) + 2 * (gE C6 - gE C0)) + 0 ≤ 108 * (80 - gN C0) + 2 * (1048576 - gE C0); omega⟩) hS (fun q _ h => hFc q h) hFc (fun r7 u t H1 locs ht hvm hw hB hz1 hk1 hS => ?_)
    obtain ⟨rfl, rfl, hg7, hh7⟩ := hw
    have hg7 : gN C7 = gN C6 := hg7
    have hh7 : gE C7 = gE C6 := hh7
    refine W.widen (k := (7 * (gN C7 - gN C0) + (gE C7 - gE C0) / 256)) (n := (108 * (gN C7 - gN C0) + 2 * (gE C7 - gE C0))) (by omega) (by omega) ?_
    obtain ⟨hP1, hK1, hD1⟩ := hB
    rw [ht] at hP1
    have hP := hP1
    have hD := k_weak hD1 hFc
    generalize H1 = H at hP hS ⊢
    have hP : va_P D vwCl (cW cI cJ cO h xa ea0 pa0 C7) _ := hP
    have hD : va_D A (cW cI cJ cO h xa ea0 pa0 C7) := hD
    obtain ⟨q8, C8, h8, hq⟩ := k_bd hq
    have hFc := k_free hD hS hA
    refine va_calli (va_runV (As := [.int r7]) (rest := []) ⟨hx, hb, hml, hown, hts⟩ (c_X0_load (l := l) (D := D) (cI := cI) (cJ := cJ) (cO := cO) (h := h) (xa := xa) (ea0 := ea0) (pa0 := pa0)  (hn0 := by show x1.toNatClampNeg < gN C7; omega) (hf := h8)) (cwV 1 hts gX3_perform_X0_load rfl rfl rfl (by decide +kernel) ⟨Nat.le_of_ble_eq_true rfl, Nat.le_of_ble_eq_true rfl⟩) ⟨k_blind, va_recv hK hP (ci := 0) (q0 := (16 + (7 * x1.toNatClampNeg + 0))) rfl (cW_get (show x1.toNatClampNeg < gN C7 from by omega) rfl), fun U hU hW => ⟨rfl, k_pre hU hW hP hK hD⟩⟩ rfl rfl hl.1 rfl (lv_room (Nat.le_of_ble_eq_true rfl)) dX3_perform_86 ⟨by show (7 * (gN C7 - gN C0) + (gE C7 - gE C0) / 256) + 0 ≤ 7 * (80 - gN C0) + (1048576 - gE C0) / 256; omega, by show (108 * (gN C7 - gN C0) + 2 * (gE C7 - gE C0)) + 0 ≤ 108 * (80 - gN C0) + 2 * (1048576 - gE C0); omega⟩) hS (fun q _ h => hFc q h) hFc (fun r8 u t H1 locs ht hvm hw hB hz1 hk1 hS => ?_)
    obtain ⟨rfl, rfl, hg8, hh8⟩ := hw
    have hg8 : gN C8 = gN C7 := hg8
    have hh8 : gE C8 = gE C7 := hh8
    refine W.widen (k := (7 * (gN C8 - gN C0) + (gE C8 - gE C0) / 256)) (n := (108 * (gN C8 - gN C0) + 2 * (gE C8 - gE C0))) (by omega) (by omega) ?_
    obtain ⟨hP1, hK1, hD1⟩ := hB
    rw [ht] at hP1
    have hP := hP1
    have hD := k_weak hD1 hFc
    generalize H1 = H at hP hS ⊢
    have hP : va_P D vwCl (cW cI cJ cO h xa ea0 pa0 C8) _ := hP
    have hD : va_D A (cW cI cJ cO h xa ea0 pa0 C8) := hD
    obtain ⟨b9, hq⟩ := k_if hq
    obtain ⟨e2, e3⟩ := k_so hq
    subst hQ
    have hP : va_P D vwCl (cW cI cJ cO h xa ea0 pa0 C8) _ := hP
    have hD : va_D A (cW cI cJ cO h xa ea0 pa0 C8) := hD
    have hgE := congrArg (fun X : CS => gN X) e3
    have hgE : gN C8 = gN C' := hgE
    have hhE := congrArg (fun X : CS => gE X) e3
    have hhE : gE C8 = gE C' := hhE
    refine k_facts (fun hm1 hm2 hm3 => ?_)
    refine W.widen (k := 7 * (80 - gN C0) + (1048576 - gE C0) / 256) (n := 108 * (80 - gN C0) + 2 * (1048576 - gE C0)) (by omega) (by omega) ?_
    exact W.zret (v := r8) hx hb hr (congrArg Value.int b9) (fun t ht hW => ⟨⟨r8, (cW cI cJ cO h xa ea0 pa0 C8, [(cI, .int), (cO, .object RX0), (cJ, .long)]), rfl, ⟨ea0, pa0, e2, (congrArg (fun X : CS => ((cW cI cJ cO h xa ea0 pa0 X, [(cI, .int), (cO, .object RX0), (cJ, .long)]) : va_W × List (ClassId × FieldType))) e3), (by show gN C0 ≤ gN C' ∧ gN C' ≤ 80 ∧ gE C0 ≤ gE C' ∧ gE C' ≤ 1048576; omega), hpa⟩, ⟨⟨by rw [ht]; exact hP, va_K.moved hW.alike hK, hD⟩, by rw [ht]; exact hm3, by rw [ht]; omega, by rw [ht]; omega⟩⟩, hS.F ht⟩) hS.2.2 dX3_perform_89
  rw [if_neg hs5_0] at hq
  by_cases hs5_1 : (f_X3_opOf x2).toInt = 1
  · skip
    rw [if_pos hs5_1] at hq
    refine lv_tableIn (off := 67) (tgt := 90) hx hb dX3_perform_23 (by rw [hs5_1]; decide) (by rw [hs5_1]; decide) (by rw [hs5_1]; rfl) (by decide) ?_
    refine lv_aload_n hx hb dX3_perform_90 rfl (lv_at hl 2 rfl) ?_
    refine lv_iload hx hb dX3_perform_91 (lv_at hl 0 rfl) ?_
    refine lv_bipush (v := 50) hx hb dX3_perform_93 (by decide) ?_
    refine lv_isub hx hb dX3_perform_95 ?_
    obtain ⟨q10, C10, h10, hq⟩ := k_bd hq
    have hFc := k_free hD hS hA
    refine va_calli (va_runV (As := [.int ((f_X3_bOf x2) - 50)]) (rest := []) ⟨hx, hb, hml, hown, hts⟩ (c_X0_load (l := l) (D := D) (cI := cI) (cJ := cJ) (cO := cO) (h := h) (xa := xa) (ea0 := ea0) (pa0 := pa0)  (hn0 := by show x1.toNatClampNeg < gN C0; omega) (hf := h10)) (cwV 1 hts gX3_perform_X0_load rfl rfl rfl (by decide +kernel) ⟨Nat.le_of_ble_eq_true rfl, Nat.le_of_ble_eq_true rfl⟩) ⟨k_blind, va_recv hK hP (ci := 0) (q0 := (16 + (7 * x1.toNatClampNeg + 0))) rfl (cW_get (show x1.toNatClampNeg < gN C0 from by omega) rfl), fun U hU hW => ⟨rfl, k_pre hU hW hP hK hD⟩⟩ rfl rfl hl.1 rfl (lv_room (Nat.le_of_ble_eq_true rfl)) dX3_perform_96 ⟨by show (7 * (gN C0 - gN C0) + (gE C0 - gE C0) / 256) + 0 ≤ 7 * (80 - gN C0) + (1048576 - gE C0) / 256; omega, by show (108 * (gN C0 - gN C0) + 2 * (gE C0 - gE C0)) + 0 ≤ 108 * (80 - gN C0) + 2 * (1048576 - gE C0); omega⟩) hS (fun q _ h => hFc q h) hFc (fun r10 u t H1 locs ht hvm hw hB hz1 hk1 hS => ?_)
    obtain ⟨rfl, rfl, hg10, hh10⟩ := hw
    have hg10 : gN C10 = gN C0 := hg10
    have hh10 : gE C10 = gE C0 := hh10
    refine W.widen (k := (7 * (gN C10 - gN C0) + (gE C10 - gE C0) / 256)) (n := (108 * (gN C10 - gN C0) + 2 * (gE C10 - gE C0))) (by omega) (by omega) ?_
    obtain ⟨hP1, hK1, hD1⟩ := hB
    rw [ht] at hP1
    have hP := hP1
    have hD := k_weak hD1 hFc
    generalize H1 = H at hP hS ⊢
    have hP : va_P D vwCl (cW cI cJ cO h xa ea0 pa0 C10) _ := hP
    have hD : va_D A (cW cI cJ cO h xa ea0 pa0 C10) := hD
    obtain ⟨b11, hq⟩ := k_if hq
    obtain ⟨e2, e3⟩ := k_so hq
    subst hQ
    have hP : va_P D vwCl (cW cI cJ cO h xa ea0 pa0 C10) _ := hP
    have hD : va_D A (cW cI cJ cO h xa ea0 pa0 C10) := hD
    have hgE := congrArg (fun X : CS => gN X) e3
    have hgE : gN C10 = gN C' := hgE
    have hhE := congrArg (fun X : CS => gE X) e3
    have hhE : gE C10 = gE C' := hhE
    refine k_facts (fun hm1 hm2 hm3 => ?_)
    refine W.widen (k := 7 * (80 - gN C0) + (1048576 - gE C0) / 256) (n := 108 * (80 - gN C0) + 2 * (1048576 - gE C0)) (by omega) (by omega) ?_
    exact W.zret (v := r10) hx hb hr (congrArg Value.int b11) (fun t ht hW => ⟨⟨r10, (cW cI cJ cO h xa ea0 pa0 C10, [(cI, .int), (cO, .object RX0), (cJ, .long)]), rfl, ⟨ea0, pa0, e2, (congrArg (fun X : CS => ((cW cI cJ cO h xa ea0 pa0 X, [(cI, .int), (cO, .object RX0), (cJ, .long)]) : va_W × List (ClassId × FieldType))) e3), (by show gN C0 ≤ gN C' ∧ gN C' ≤ 80 ∧ gE C0 ≤ gE C' ∧ gE C' ≤ 1048576; omega), hpa⟩, ⟨⟨by rw [ht]; exact hP, va_K.moved hW.alike hK, hD⟩, by rw [ht]; exact hm3, by rw [ht]; omega, by rw [ht]; omega⟩⟩, hS.F ht⟩) hS.2.2 dX3_perform_99
  rw [if_neg hs5_1] at hq
  by_cases hs5_2 : (f_X3_opOf x2).toInt = 2
  · skip
    rw [if_pos hs5_2] at hq
    refine lv_tableIn (off := 77) (tgt := 100) hx hb dX3_perform_23 (by rw [hs5_2]; decide) (by rw [hs5_2]; decide) (by rw [hs5_2]; rfl) (by decide) ?_
    refine lv_aload_n hx hb dX3_perform_100 rfl (lv_at hl 2 rfl) ?_
    refine lv_aload_n hx hb dX3_perform_101 rfl (lv_at hl 2 rfl) ?_
    refine va_get (D := D) (ci := 0) (v := .int (gP C0 x1.toNatClampNeg 13)) (C := RX0) (T := TX0) (N := 20) hx hb hts kin_X3_perform_X0 hown hK hP (16 + (7 * x1.toNatClampNeg + 0)) (cW_get (show x1.toNatClampNeg < gN C0 from by omega) rfl) rfl 13 (by decide) (hts _ kw_X3_perform__fieldLink_RX3_148_ActHouse_Act_register_I_) (fun _ h9 => h9) rfl dX3_perform_102 ?_
    refine lv_iload hx hb dX3_perform_105 (lv_at hl 0 rfl) ?_
    refine lv_iadd hx hb dX3_perform_107 ?_
    refine lv_bipush (v := 50) hx hb dX3_perform_108 (by decide) ?_
    refine lv_isub hx hb dX3_perform_110 ?_
    obtain ⟨q12, C12, h12, hq⟩ := k_bd hq
    have hFc := k_free hD hS hA
    refine va_calli (va_runV (As := [.int (((gP C0 x1.toNatClampNeg 13) + (f_X3_bOf x2)) - 50)]) (rest := []) ⟨hx, hb, hml, hown, hts⟩ (c_X0_load (l := l) (D := D) (cI := cI) (cJ := cJ) (cO := cO) (h := h) (xa := xa) (ea0 := ea0) (pa0 := pa0)  (hn0 := by show x1.toNatClampNeg < gN C0; omega) (hf := h12)) (cwV 1 hts gX3_perform_X0_load rfl rfl rfl (by decide +kernel) ⟨Nat.le_of_ble_eq_true rfl, Nat.le_of_ble_eq_true rfl⟩) ⟨k_blind, va_recv hK hP (ci := 0) (q0 := (16 + (7 * x1.toNatClampNeg + 0))) rfl (cW_get (show x1.toNatClampNeg < gN C0 from by omega) rfl), fun U hU hW => ⟨rfl, k_pre hU hW hP hK hD⟩⟩ rfl rfl hl.1 rfl (lv_room (Nat.le_of_ble_eq_true rfl)) dX3_perform_111 ⟨by show (7 * (gN C0 - gN C0) + (gE C0 - gE C0) / 256) + 0 ≤ 7 * (80 - gN C0) + (1048576 - gE C0) / 256; omega, by show (108 * (gN C0 - gN C0) + 2 * (gE C0 - gE C0)) + 0 ≤ 108 * (80 - gN C0) + 2 * (1048576 - gE C0); omega⟩) hS (fun q _ h => hFc q h) hFc (fun r12 u t H1 locs ht hvm hw hB hz1 hk1 hS => ?_)
    obtain ⟨rfl, rfl, hg12, hh12⟩ := hw
    have hg12 : gN C12 = gN C0 := hg12
    have hh12 : gE C12 = gE C0 := hh12
    refine W.widen (k := (7 * (gN C12 - gN C0) + (gE C12 - gE C0) / 256)) (n := (108 * (gN C12 - gN C0) + 2 * (gE C12 - gE C0))) (by omega) (by omega) ?_
    obtain ⟨hP1, hK1, hD1⟩ := hB
    rw [ht] at hP1
    have hP := hP1
    have hD := k_weak hD1 hFc
    generalize H1 = H at hP hS ⊢
    have hP : va_P D vwCl (cW cI cJ cO h xa ea0 pa0 C12) _ := hP
    have hD : va_D A (cW cI cJ cO h xa ea0 pa0 C12) := hD
    obtain ⟨b13, hq⟩ := k_if hq
    obtain ⟨e2, e3⟩ := k_so hq
    subst hQ
    have hP : va_P D vwCl (cW cI cJ cO h xa ea0 pa0 C12) _ := hP
    have hD : va_D A (cW cI cJ cO h xa ea0 pa0 C12) := hD
    have hgE := congrArg (fun X : CS => gN X) e3
    have hgE : gN C12 = gN C' := hgE
    have hhE := congrArg (fun X : CS => gE X) e3
    have hhE : gE C12 = gE C' := hhE
    refine k_facts (fun hm1 hm2 hm3 => ?_)
    refine W.widen (k := 7 * (80 - gN C0) + (1048576 - gE C0) / 256) (n := 108 * (80 - gN C0) + 2 * (1048576 - gE C0)) (by omega) (by omega) ?_
    exact W.zret (v := r12) hx hb hr (congrArg Value.int b13) (fun t ht hW => ⟨⟨r12, (cW cI cJ cO h xa ea0 pa0 C12, [(cI, .int), (cO, .object RX0), (cJ, .long)]), rfl, ⟨ea0, pa0, e2, (congrArg (fun X : CS => ((cW cI cJ cO h xa ea0 pa0 X, [(cI, .int), (cO, .object RX0), (cJ, .long)]) : va_W × List (ClassId × FieldType))) e3), (by show gN C0 ≤ gN C' ∧ gN C' ≤ 80 ∧ gE C0 ≤ gE C' ∧ gE C' ≤ 1048576; omega), hpa⟩, ⟨⟨by rw [ht]; exact hP, va_K.moved hW.alike hK, hD⟩, by rw [ht]; exact hm3, by rw [ht]; omega, by rw [ht]; omega⟩⟩, hS.F ht⟩) hS.2.2 dX3_perform_114
  rw [if_neg hs5_2] at hq
  by_cases hs5_3 : (f_X3_opOf x2).toInt = 3
  · skip
    rw [if_pos hs5_3] at hq
    refine lv_tableIn (off := 92) (tgt := 115) hx hb dX3_perform_23 (by rw [hs5_3]; decide) (by rw [hs5_3]; decide) (by rw [hs5_3]; rfl) (by decide) ?_
    refine lv_aload_n hx hb dX3_perform_115 rfl (lv_at hl 2 rfl) ?_
    refine lv_iload hx hb dX3_perform_116 (lv_at hl 1 rfl) ?_
    obtain ⟨r14, C14, h14, hq⟩ := k_bd hq
    have hFc := k_free hD hS hA
    refine va_callv (va_runV (As := [.int (f_X3_aOf x2)]) (rest := []) ⟨hx, hb, hml, hown, hts⟩ (c_X0_put (l := l) (D := D) (cI := cI) (cJ := cJ) (cO := cO) (h := h) (xa := xa) (ea0 := ea0) (pa0 := pa0)  (hn0 := by show x1.toNatClampNeg < gN C0; omega) (hf := h14)) (cwV 1 hts gX3_perform_X0_put rfl rfl rfl (by decide +kernel) ⟨Nat.le_of_ble_eq_true rfl, Nat.le_of_ble_eq_true rfl⟩) ⟨k_blind, va_recv hK hP (ci := 0) (q0 := (16 + (7 * x1.toNatClampNeg + 0))) rfl (cW_get (show x1.toNatClampNeg < gN C0 from by omega) rfl), fun U hU hW => ⟨rfl, k_pre hU hW hP hK hD⟩⟩ rfl rfl hl.1 rfl (lv_room (Nat.le_of_ble_eq_true rfl)) dX3_perform_118 ⟨by show (7 * (gN C0 - gN C0) + (gE C0 - gE C0) / 256) + 0 ≤ 7 * (80 - gN C0) + (1048576 - gE C0) / 256; omega, by show (108 * (gN C0 - gN C0) + 2 * (gE C0 - gE C0)) + 0 ≤ 108 * (80 - gN C0) + 2 * (1048576 - gE C0); omega⟩) hS (fun q _ h => hFc q h) hFc (fun u t H1 locs ht hvm hw hB hz1 hk1 hS => ?_)
    obtain ⟨rfl, hg14, hh14⟩ := hw
    have hg14 : gN C14 = gN C0 := hg14
    have hh14 : gE C14 = gE C0 := hh14
    refine W.widen (k := (7 * (gN C14 - gN C0) + (gE C14 - gE C0) / 256)) (n := (108 * (gN C14 - gN C0) + 2 * (gE C14 - gE C0))) (by omega) (by omega) ?_
    obtain ⟨hP1, hK1, hD1⟩ := hB
    rw [ht] at hP1
    have hP := hP1
    have hD := k_weak hD1 hFc
    generalize H1 = H at hP hS ⊢
    have hP : va_P D vwCl (cW cI cJ cO h xa ea0 pa0 C14) _ := hP
    have hD : va_D A (cW cI cJ cO h xa ea0 pa0 C14) := hD
    refine lv_aload_n hx hb dX3_perform_121 rfl (lv_at hl 3 rfl) ?_
    refine va_get (D := D) (ci := 3) (v := .ref (xa 10)) (C := RX3) (T := TX3) (N := 18) hx hb hts kin_X3_perform_X3 hown hK hP 0 rfl rfl 10 (by decide) (hts _ kw_X3_perform__fieldLink_RX3_46_ActHouse_book_LActHouse_LogBook_) (fun _ h9 => h9) rfl dX3_perform_122 ?_
    refine lv_iconst (v := 1) hx hb dX3_perform_125 (by decide) ?_
    refine lv_iload_n hx hb dX3_perform_126 rfl (lv_at hl 4 rfl) ?_
    refine lv_iload hx hb dX3_perform_127 (lv_at hl 1 rfl) ?_
    refine lv_aload_n hx hb dX3_perform_129 rfl (lv_at hl 3 rfl) ?_
    refine va_get (D := D) (ci := 3) (v := .int (C14.1 15)) (C := RX3) (T := TX3) (N := 18) hx hb hts kin_X3_perform_X3 hown hK hP 0 rfl rfl 15 (by decide) (hts _ kw_X3_perform__fieldLink_RX3_79_ActHouse_now_I_) (fun _ h9 => h9) rfl dX3_perform_130 ?_
    obtain ⟨q15, C15, h15, hq⟩ := k_bd hq
    have hFc := k_free hD hS hA
    refine k_facts (fun hn1 hn2 hn3 => ?_)
    refine va_calli (va_runV (As := [.int 1, .int x1, .int (f_X3_aOf x2), .int (C14.1 15)]) (rest := []) ⟨hx, hb, hml, hown, hts⟩ (c_X1_write (l := l) (D := D) (cI := cI) (cJ := cJ) (cO := cO) (h := h) (xa := xa) (ea0 := ea0) (pa0 := pa0)  (hg := by show gN C14 ≤ 80 ∧ gE C14 ≤ 1048576; omega) (hf := h15)) (cwV 4 hts gX3_perform_X1_write rfl rfl rfl (by decide +kernel) ⟨Nat.le_of_ble_eq_true rfl, Nat.le_of_ble_eq_true rfl⟩) ⟨k_blindH, va_recv hK hP (ci := 1) (q0 := 11) rfl rfl, fun U hU hW => ⟨rfl, k_preH hU hW hP hK hD⟩⟩ rfl rfl hl.1 rfl (lv_room (Nat.le_of_ble_eq_true rfl)) dX3_perform_133 ⟨by show (7 * (gN C14 - gN C0) + (gE C14 - gE C0) / 256) + (7 * (80 - gN C14) + (1048576 - gE C14) / 256) ≤ 7 * (80 - gN C0) + (1048576 - gE C0) / 256; omega, by show (108 * (gN C14 - gN C0) + 2 * (gE C14 - gE C0)) + (108 * (80 - gN C14) + 2 * (1048576 - gE C14)) ≤ 108 * (80 - gN C0) + 2 * (1048576 - gE C0); omega⟩) hS (fun q _ h => hFc q h) hFc (fun r15 u t H1 locs ht hvm hw hB hz1 hk1 hS => ?_)
    obtain ⟨ea15, pa15, rfl, rfl, hg15, hp15⟩ := hw
    have hg15 : gN C14 ≤ gN C15 ∧ gN C15 ≤ 80 ∧ gE C14 ≤ gE C15 ∧ gE C15 ≤ 1048576 := hg15
    have hpa : ∀ n, n < gN C0 → pa15 n = pa0 n := fun n hn => (hp15 n (by show n < gN C14; omega)).trans (hpa n hn)
    obtain ⟨hB, hz2, hz3, hz4⟩ := hB
    rw [ht] at hz2 hz3 hz4
    refine k_tight (k := (7 * (gN C15 - gN C0) + (gE C15 - gE C0) / 256)) (n := (108 * (gN C15 - gN C0) + 2 * (gE C15 - gE C0))) (by omega) (by rw [k_nS_tr hn3.1 hz2]; omega) ?_
    have hl : lv_has ls 6 [(5, .int (f_X3_bOf x2)), (4, .int (f_X3_aOf x2)), (3, .ref (pa15 x1.toNatClampNeg 0)), (0, .ref h), (1, .int x1), (2, .int x2)] := by rw [hp15 x1.toNatClampNeg (by show x1.toNatClampNeg < gN C14; omega)]; exact hl
    obtain ⟨hP1, hK1, hD1⟩ := hB
    rw [ht] at hP1
    have hP := hP1
    have hD := k_weak hD1 hFc
    generalize H1 = H at hP hS ⊢
    have hP : va_P D vwCl (cW cI cJ cO h xa ea15 pa15 C15) _ := hP
    have hD : va_D A (cW cI cJ cO h xa ea15 pa15 C15) := hD
    refine lv_pop hx hb dX3_perform_136 rfl ?_
    refine lv_iconst (v := 1) hx hb dX3_perform_137 (by decide) ?_
    obtain ⟨e2, e3⟩ := k_so hq
    subst hQ
    have hP : va_P D vwCl (cW cI cJ cO h xa ea15 pa15 C15) _ := hP
    have hD : va_D A (cW cI cJ cO h xa ea15 pa15 C15) := hD
    have hgE := congrArg (fun X : CS => gN X) e3
    have hgE : gN C15 = gN C' := hgE
    have hhE := congrArg (fun X : CS => gE X) e3
    have hhE : gE C15 = gE C' := hhE
    refine k_facts (fun hm1 hm2 hm3 => ?_)
    refine W.widen (k := 7 * (80 - gN C0) + (1048576 - gE C0) / 256) (n := 108 * (80 - gN C0) + 2 * (1048576 - gE C0)) (by omega) (by omega) ?_
    exact W.zret (v := 1) hx hb hr (by decide) (fun t ht hW => ⟨⟨1, (cW cI cJ cO h xa ea15 pa15 C15, [(cI, .int), (cO, .object RX0), (cJ, .long)]), rfl, ⟨ea15, pa15, e2, (congrArg (fun X : CS => ((cW cI cJ cO h xa ea15 pa15 X, [(cI, .int), (cO, .object RX0), (cJ, .long)]) : va_W × List (ClassId × FieldType))) e3), (by show gN C0 ≤ gN C' ∧ gN C' ≤ 80 ∧ gE C0 ≤ gE C' ∧ gE C' ≤ 1048576; omega), hpa⟩, ⟨⟨by rw [ht]; exact hP, va_K.moved hW.alike hK, hD⟩, by rw [ht]; exact hm3, by rw [ht]; omega, by rw [ht]; omega⟩⟩, hS.F ht⟩) hS.2.2 dX3_perform_138
  rw [if_neg hs5_3] at hq
  by_cases hs5_4 : (f_X3_opOf x2).toInt = 4
  · skip
    rw [if_pos hs5_4] at hq
    refine lv_tableIn (off := 116) (tgt := 139) hx hb dX3_perform_23 (by rw [hs5_4]; decide) (by rw [hs5_4]; decide) (by rw [hs5_4]; rfl) (by decide) ?_
    refine lv_aload_n hx hb dX3_perform_139 rfl (lv_at hl 2 rfl) ?_
    refine lv_iload hx hb dX3_perform_140 (lv_at hl 1 rfl) ?_
    obtain ⟨r16, C16, h16, hq⟩ := k_bd hq
    have hFc := k_free hD hS hA
    refine va_callv (va_runV (As := [.int (f_X3_aOf x2)]) (rest := []) ⟨hx, hb, hml, hown, hts⟩ (c_X0_lockToRead (l := l) (D := D) (cI := cI) (cJ := cJ) (cO := cO) (h := h) (xa := xa) (ea0 := ea0) (pa0 := pa0)  (hn0 := by show x1.toNatClampNeg < gN C0; omega) (hf := h16)) (cwV 1 hts gX3_perform_X0_lockToRead rfl rfl rfl (by decide +kernel) ⟨Nat.le_of_ble_eq_true rfl, Nat.le_of_ble_eq_true rfl⟩) ⟨k_blind, va_recv hK hP (ci := 0) (q0 := (16 + (7 * x1.toNatClampNeg + 0))) rfl (cW_get (show x1.toNatClampNeg < gN C0 from by omega) rfl), fun U hU hW => ⟨rfl, k_pre hU hW hP hK hD⟩⟩ rfl rfl hl.1 rfl (lv_room (Nat.le_of_ble_eq_true rfl)) dX3_perform_142 ⟨by show (7 * (gN C0 - gN C0) + (gE C0 - gE C0) / 256) + 0 ≤ 7 * (80 - gN C0) + (1048576 - gE C0) / 256; omega, by show (108 * (gN C0 - gN C0) + 2 * (gE C0 - gE C0)) + 0 ≤ 108 * (80 - gN C0) + 2 * (1048576 - gE C0); omega⟩) hS (fun q _ h => hFc q h) hFc (fun u t H1 locs ht hvm hw hB hz1 hk1 hS => ?_)
    obtain ⟨rfl, hg16, hh16⟩ := hw
    have hg16 : gN C16 = gN C0 := hg16
    have hh16 : gE C16 = gE C0 := hh16
    refine W.widen (k := (7 * (gN C16 - gN C0) + (gE C16 - gE C0) / 256)) (n := (108 * (gN C16 - gN C0) + 2 * (gE C16 - gE C0))) (by omega) (by omega) ?_
    obtain ⟨hP1, hK1, hD1⟩ := hB
    rw [ht] at hP1
    have hP := hP1
    have hD := k_weak hD1 hFc
    generalize H1 = H at hP hS ⊢
    have hP : va_P D vwCl (cW cI cJ cO h xa ea0 pa0 C16) _ := hP
    have hD : va_D A (cW cI cJ cO h xa ea0 pa0 C16) := hD
    refine lv_aload_n hx hb dX3_perform_145 rfl (lv_at hl 2 rfl) ?_
    refine lv_aload_n hx hb dX3_perform_146 rfl (lv_at hl 2 rfl) ?_
    refine va_get (D := D) (ci := 0) (v := .int (gP C16 x1.toNatClampNeg 13)) (C := RX0) (T := TX0) (N := 20) hx hb hts kin_X3_perform_X0 hown hK hP (16 + (7 * x1.toNatClampNeg + 0)) (cW_get (show x1.toNatClampNeg < gN C16 from by omega) rfl) rfl 13 (by decide) (hts _ kw_X3_perform__fieldLink_RX3_148_ActHouse_Act_register_I_) (fun _ h9 => h9) rfl dX3_perform_147 ?_
    refine lv_aload_n hx hb dX3_perform_150 rfl (lv_at hl 3 rfl) ?_
    refine lv_aload_n hx hb dX3_perform_151 rfl (lv_at hl 2 rfl) ?_
    refine lv_iload hx hb dX3_perform_152 (lv_at hl 1 rfl) ?_
    obtain ⟨q17, C17, h17, hq⟩ := k_bd hq
    have hFc := k_free hD hS hA
    refine va_calli (va_runV (As := [.ref (pa0 x1.toNatClampNeg 0), .int (f_X3_aOf x2)]) (rest := [.int (gP C16 x1.toNatClampNeg 13), .ref (pa0 x1.toNatClampNeg 0)]) ⟨hx, hb, hml, hown, hts⟩ (c_X3_seenBy (l := l) (D := D) (cI := cI) (cJ := cJ) (cO := cO) (h := h) (xa := xa) (ea0 := ea0) (pa0 := pa0)  (hn1 := by show x1.toNatClampNeg < gN C16; omega) (hf := h17)) (cwV 2 hts gX3_perform_X3_seenBy rfl rfl rfl (by decide +kernel) ⟨Nat.le_of_ble_eq_true rfl, Nat.le_of_ble_eq_true rfl⟩) ⟨k_blind, va_recv hK hP (ci := 3) (q0 := 0) rfl rfl, fun U hU hW => ⟨rfl, k_pre hU hW hP hK hD⟩⟩ rfl rfl hl.1 rfl (lv_room (Nat.le_of_ble_eq_true rfl)) dX3_perform_154 ⟨by show (7 * (gN C16 - gN C0) + (gE C16 - gE C0) / 256) + 0 ≤ 7 * (80 - gN C0) + (1048576 - gE C0) / 256; omega, by show (108 * (gN C16 - gN C0) + 2 * (gE C16 - gE C0)) + 0 ≤ 108 * (80 - gN C0) + 2 * (1048576 - gE C0); omega⟩) hS (fun q _ h => hFc q h) hFc (fun r17 u t H1 locs ht hvm hw hB hz1 hk1 hS => ?_)
    obtain ⟨rfl, rfl, hg17, hh17⟩ := hw
    have hg17 : gN C17 = gN C16 := hg17
    have hh17 : gE C17 = gE C16 := hh17
    refine W.widen (k := (7 * (gN C17 - gN C0) + (gE C17 - gE C0) / 256)) (n := (108 * (gN C17 - gN C0) + 2 * (gE C17 - gE C0))) (by omega) (by omega) ?_
    obtain ⟨hP1, hK1, hD1⟩ := hB
    rw [ht] at hP1
    have hP := hP1
    have hD := k_weak hD1 hFc
    generalize H1 = H at hP hS ⊢
    have hP : va_P D vwCl (cW cI cJ cO h xa ea0 pa0 C17) _ := hP
    have hD : va_D A (cW cI cJ cO h xa ea0 pa0 C17) := hD
    refine lv_iadd hx hb dX3_perform_157 ?_
    obtain ⟨q18, C18, h18, hq⟩ := k_bd hq
    have hFc := k_free hD hS hA
    refine va_calli (va_runV (As := [.int ((gP C16 x1.toNatClampNeg 13) + r17)]) (rest := []) ⟨hx, hb, hml, hown, hts⟩ (c_X0_load (l := l) (D := D) (cI := cI) (cJ := cJ) (cO := cO) (h := h) (xa := xa) (ea0 := ea0) (pa0 := pa0)  (hn0 := by show x1.toNatClampNeg < gN C17; omega) (hf := h18)) (cwV 1 hts gX3_perform_X0_load rfl rfl rfl (by decide +kernel) ⟨Nat.le_of_ble_eq_true rfl, Nat.le_of_ble_eq_true rfl⟩) ⟨k_blind, va_recv hK hP (ci := 0) (q0 := (16 + (7 * x1.toNatClampNeg + 0))) rfl (cW_get (show x1.toNatClampNeg < gN C17 from by omega) rfl), fun U hU hW => ⟨rfl, k_pre hU hW hP hK hD⟩⟩ rfl rfl hl.1 rfl (lv_room (Nat.le_of_ble_eq_true rfl)) dX3_perform_158 ⟨by show (7 * (gN C17 - gN C0) + (gE C17 - gE C0) / 256) + 0 ≤ 7 * (80 - gN C0) + (1048576 - gE C0) / 256; omega, by show (108 * (gN C17 - gN C0) + 2 * (gE C17 - gE C0)) + 0 ≤ 108 * (80 - gN C0) + 2 * (1048576 - gE C0); omega⟩) hS (fun q _ h => hFc q h) hFc (fun r18 u t H1 locs ht hvm hw hB hz1 hk1 hS => ?_)
    obtain ⟨rfl, rfl, hg18, hh18⟩ := hw
    have hg18 : gN C18 = gN C17 := hg18
    have hh18 : gE C18 = gE C17 := hh18
    refine W.widen (k := (7 * (gN C18 - gN C0) + (gE C18 - gE C0) / 256)) (n := (108 * (gN C18 - gN C0) + 2 * (gE C18 - gE C0))) (by omega) (by omega) ?_
    obtain ⟨hP1, hK1, hD1⟩ := hB
    rw [ht] at hP1
    have hP := hP1
    have hD := k_weak hD1 hFc
    generalize H1 = H at hP hS ⊢
    have hP : va_P D vwCl (cW cI cJ cO h xa ea0 pa0 C18) _ := hP
    have hD : va_D A (cW cI cJ cO h xa ea0 pa0 C18) := hD
    obtain ⟨b19, hq⟩ := k_if hq
    obtain ⟨e2, e3⟩ := k_so hq
    subst hQ
    have hP : va_P D vwCl (cW cI cJ cO h xa ea0 pa0 C18) _ := hP
    have hD : va_D A (cW cI cJ cO h xa ea0 pa0 C18) := hD
    have hgE := congrArg (fun X : CS => gN X) e3
    have hgE : gN C18 = gN C' := hgE
    have hhE := congrArg (fun X : CS => gE X) e3
    have hhE : gE C18 = gE C' := hhE
    refine k_facts (fun hm1 hm2 hm3 => ?_)
    refine W.widen (k := 7 * (80 - gN C0) + (1048576 - gE C0) / 256) (n := 108 * (80 - gN C0) + 2 * (1048576 - gE C0)) (by omega) (by omega) ?_
    exact W.zret (v := r18) hx hb hr (congrArg Value.int b19) (fun t ht hW => ⟨⟨r18, (cW cI cJ cO h xa ea0 pa0 C18, [(cI, .int), (cO, .object RX0), (cJ, .long)]), rfl, ⟨ea0, pa0, e2, (congrArg (fun X : CS => ((cW cI cJ cO h xa ea0 pa0 X, [(cI, .int), (cO, .object RX0), (cJ, .long)]) : va_W × List (ClassId × FieldType))) e3), (by show gN C0 ≤ gN C' ∧ gN C' ≤ 80 ∧ gE C0 ≤ gE C' ∧ gE C' ≤ 1048576; omega), hpa⟩, ⟨⟨by rw [ht]; exact hP, va_K.moved hW.alike hK, hD⟩, by rw [ht]; exact hm3, by rw [ht]; omega, by rw [ht]; omega⟩⟩, hS.F ht⟩) hS.2.2 dX3_perform_161
  rw [if_neg hs5_4] at hq
  by_cases hs5_5 : (f_X3_opOf x2).toInt = 5
  · skip
    rw [if_pos hs5_5] at hq
    refine lv_tableIn (off := 139) (tgt := 162) hx hb dX3_perform_23 (by rw [hs5_5]; decide) (by rw [hs5_5]; decide) (by rw [hs5_5]; rfl) (by decide) ?_
    refine lv_aload_n hx hb dX3_perform_162 rfl (lv_at hl 2 rfl) ?_
    refine va_get (D := D) (ci := 0) (v := .int (gP C0 x1.toNatClampNeg 13)) (C := RX0) (T := TX0) (N := 20) hx hb hts kin_X3_perform_X0 hown hK hP (16 + (7 * x1.toNatClampNeg + 0)) (cW_get (show x1.toNatClampNeg < gN C0 from by omega) rfl) rfl 13 (by decide) (hts _ kw_X3_perform__fieldLink_RX3_148_ActHouse_Act_register_I_) (fun _ h9 => h9) rfl dX3_perform_163 ?_
    refine lv_if_lt (tgt := 173) hx hb dX3_perform_166 (by decide) (fun c20 => ?_) (fun c20 => ?_)
    · skip
      rw [if_pos c20] at hq
      refine lv_iconst (v := 0) hx hb dX3_perform_173 (by decide) ?_
      obtain ⟨e2, e3⟩ := k_so hq
      subst hQ
      have hP : va_P D vwCl (cW cI cJ cO h xa ea0 pa0 C0) _ := hP
      have hD : va_D A (cW cI cJ cO h xa ea0 pa0 C0) := hD
      have hgE := congrArg (fun X : CS => gN X) e3
      have hgE : gN C0 = gN C' := hgE
      have hhE := congrArg (fun X : CS => gE X) e3
      have hhE : gE C0 = gE C' := hhE
      refine k_facts (fun hm1 hm2 hm3 => ?_)
      refine W.widen (k := 7 * (80 - gN C0) + (1048576 - gE C0) / 256) (n := 108 * (80 - gN C0) + 2 * (1048576 - gE C0)) (by omega) (by omega) ?_
      exact W.zret (v := 0) hx hb hr (by decide) (fun t ht hW => ⟨⟨0, (cW cI cJ cO h xa ea0 pa0 C0, [(cI, .int), (cO, .object RX0), (cJ, .long)]), rfl, ⟨ea0, pa0, e2, (congrArg (fun X : CS => ((cW cI cJ cO h xa ea0 pa0 X, [(cI, .int), (cO, .object RX0), (cJ, .long)]) : va_W × List (ClassId × FieldType))) e3), (by show gN C0 ≤ gN C' ∧ gN C' ≤ 80 ∧ gE C0 ≤ gE C' ∧ gE C' ≤ 1048576; omega), hpa⟩, ⟨⟨by rw [ht]; exact hP, va_K.moved hW.alike hK, hD⟩, by rw [ht]; exact hm3, by rw [ht]; omega, by rw [ht]; omega⟩⟩, hS.F ht⟩) hS.2.2 dX3_perform_174
    · skip
      rw [if_neg c20] at hq
      refine lv_iconst (v := 1) hx hb dX3_perform_169 (by decide) ?_
      refine lv_goto (tgt := 174) hx hb dX3_perform_170 (by decide) ?_
      obtain ⟨e2, e3⟩ := k_so hq
      subst hQ
      have hP : va_P D vwCl (cW cI cJ cO h xa ea0 pa0 C0) _ := hP
      have hD : va_D A (cW cI cJ cO h xa ea0 pa0 C0) := hD
      have hgE := congrArg (fun X : CS => gN X) e3
      have hgE : gN C0 = gN C' := hgE
      have hhE := congrArg (fun X : CS => gE X) e3
      have hhE : gE C0 = gE C' := hhE
      refine k_facts (fun hm1 hm2 hm3 => ?_)
      refine W.widen (k := 7 * (80 - gN C0) + (1048576 - gE C0) / 256) (n := 108 * (80 - gN C0) + 2 * (1048576 - gE C0)) (by omega) (by omega) ?_
      exact W.zret (v := 1) hx hb hr (by decide) (fun t ht hW => ⟨⟨1, (cW cI cJ cO h xa ea0 pa0 C0, [(cI, .int), (cO, .object RX0), (cJ, .long)]), rfl, ⟨ea0, pa0, e2, (congrArg (fun X : CS => ((cW cI cJ cO h xa ea0 pa0 X, [(cI, .int), (cO, .object RX0), (cJ, .long)]) : va_W × List (ClassId × FieldType))) e3), (by show gN C0 ≤ gN C' ∧ gN C' ≤ 80 ∧ gE C0 ≤ gE C' ∧ gE C' ≤ 1048576; omega), hpa⟩, ⟨⟨by rw [ht]; exact hP, va_K.moved hW.alike hK, hD⟩, by rw [ht]; exact hm3, by rw [ht]; omega, by rw [ht]; omega⟩⟩, hS.F ht⟩) hS.2.2 dX3_perform_174
  rw [if_neg hs5_5] at hq
  by_cases hs5_6 : (f_X3_opOf x2).toInt = 6
  · skip
    rw [if_pos hs5_6] at hq
    refine lv_tableIn (off := 152) (tgt := 175) hx hb dX3_perform_23 (by rw [hs5_6]; decide) (by rw [hs5_6]; decide) (by rw [hs5_6]; rfl) (by decide) ?_
    refine lv_aload_n hx hb dX3_perform_175 rfl (lv_at hl 2 rfl) ?_
    refine lv_iload hx hb dX3_perform_176 (lv_at hl 1 rfl) ?_
    refine lv_iload hx hb dX3_perform_178 (lv_at hl 0 rfl) ?_
    refine lv_bipush (v := 50) hx hb dX3_perform_180 (by decide) ?_
    refine lv_isub hx hb dX3_perform_182 ?_
    obtain ⟨r21, C21, h21, hq⟩ := k_bd hq
    have hFc := k_free hD hS hA
    refine va_callv (va_runV (As := [.int (f_X3_aOf x2), .int ((f_X3_bOf x2) - 50)]) (rest := []) ⟨hx, hb, hml, hown, hts⟩ (c_X0_give (l := l) (D := D) (cI := cI) (cJ := cJ) (cO := cO) (h := h) (xa := xa) (ea0 := ea0) (pa0 := pa0)  (hn0 := by show x1.toNatClampNeg < gN C0; omega) (hf := h21)) (cwV 2 hts gX3_perform_X0_give rfl rfl rfl (by decide +kernel) ⟨Nat.le_of_ble_eq_true rfl, Nat.le_of_ble_eq_true rfl⟩) ⟨k_blind, va_recv hK hP (ci := 0) (q0 := (16 + (7 * x1.toNatClampNeg + 0))) rfl (cW_get (show x1.toNatClampNeg < gN C0 from by omega) rfl), fun U hU hW => ⟨rfl, k_pre hU hW hP hK hD⟩⟩ rfl rfl hl.1 rfl (lv_room (Nat.le_of_ble_eq_true rfl)) dX3_perform_183 ⟨by show (7 * (gN C0 - gN C0) + (gE C0 - gE C0) / 256) + 0 ≤ 7 * (80 - gN C0) + (1048576 - gE C0) / 256; omega, by show (108 * (gN C0 - gN C0) + 2 * (gE C0 - gE C0)) + 0 ≤ 108 * (80 - gN C0) + 2 * (1048576 - gE C0); omega⟩) hS (fun q _ h => hFc q h) hFc (fun u t H1 locs ht hvm hw hB hz1 hk1 hS => ?_)
    obtain ⟨rfl, hg21, hh21⟩ := hw
    have hg21 : gN C21 = gN C0 := hg21
    have hh21 : gE C21 = gE C0 := hh21
    refine W.widen (k := (7 * (gN C21 - gN C0) + (gE C21 - gE C0) / 256)) (n := (108 * (gN C21 - gN C0) + 2 * (gE C21 - gE C0))) (by omega) (by omega) ?_
    obtain ⟨hP1, hK1, hD1⟩ := hB
    rw [ht] at hP1
    have hP := hP1
    have hD := k_weak hD1 hFc
    generalize H1 = H at hP hS ⊢
    have hP : va_P D vwCl (cW cI cJ cO h xa ea0 pa0 C21) _ := hP
    have hD : va_D A (cW cI cJ cO h xa ea0 pa0 C21) := hD
    refine lv_iconst (v := 1) hx hb dX3_perform_186 (by decide) ?_
    obtain ⟨e2, e3⟩ := k_so hq
    subst hQ
    have hP : va_P D vwCl (cW cI cJ cO h xa ea0 pa0 C21) _ := hP
    have hD : va_D A (cW cI cJ cO h xa ea0 pa0 C21) := hD
    have hgE := congrArg (fun X : CS => gN X) e3
    have hgE : gN C21 = gN C' := hgE
    have hhE := congrArg (fun X : CS => gE X) e3
    have hhE : gE C21 = gE C' := hhE
    refine k_facts (fun hm1 hm2 hm3 => ?_)
    refine W.widen (k := 7 * (80 - gN C0) + (1048576 - gE C0) / 256) (n := 108 * (80 - gN C0) + 2 * (1048576 - gE C0)) (by omega) (by omega) ?_
    exact W.zret (v := 1) hx hb hr (by decide) (fun t ht hW => ⟨⟨1, (cW cI cJ cO h xa ea0 pa0 C21, [(cI, .int), (cO, .object RX0), (cJ, .long)]), rfl, ⟨ea0, pa0, e2, (congrArg (fun X : CS => ((cW cI cJ cO h xa ea0 pa0 X, [(cI, .int), (cO, .object RX0), (cJ, .long)]) : va_W × List (ClassId × FieldType))) e3), (by show gN C0 ≤ gN C' ∧ gN C' ≤ 80 ∧ gE C0 ≤ gE C' ∧ gE C' ≤ 1048576; omega), hpa⟩, ⟨⟨by rw [ht]; exact hP, va_K.moved hW.alike hK, hD⟩, by rw [ht]; exact hm3, by rw [ht]; omega, by rw [ht]; omega⟩⟩, hS.F ht⟩) hS.2.2 dX3_perform_187
  rw [if_neg hs5_6] at hq
  by_cases hs5_7 : (f_X3_opOf x2).toInt = 7
  · skip
    rw [if_pos hs5_7] at hq
    refine lv_tableIn (off := 165) (tgt := 188) hx hb dX3_perform_23 (by rw [hs5_7]; decide) (by rw [hs5_7]; decide) (by rw [hs5_7]; rfl) (by decide) ?_
    refine lv_aload_n hx hb dX3_perform_188 rfl (lv_at hl 2 rfl) ?_
    refine lv_iload hx hb dX3_perform_189 (lv_at hl 1 rfl) ?_
    obtain ⟨r22, C22, h22, hq⟩ := k_bd hq
    have hFc := k_free hD hS hA
    refine va_callv (va_runV (As := [.int (f_X3_aOf x2)]) (rest := []) ⟨hx, hb, hml, hown, hts⟩ (c_X0_enqueue (l := l) (D := D) (cI := cI) (cJ := cJ) (cO := cO) (h := h) (xa := xa) (ea0 := ea0) (pa0 := pa0)  (hn0 := by show x1.toNatClampNeg < gN C0; omega) (hf := h22)) (cwV 1 hts gX3_perform_X0_enqueue rfl rfl rfl (by decide +kernel) ⟨Nat.le_of_ble_eq_true rfl, Nat.le_of_ble_eq_true rfl⟩) ⟨k_blind, va_recv hK hP (ci := 0) (q0 := (16 + (7 * x1.toNatClampNeg + 0))) rfl (cW_get (show x1.toNatClampNeg < gN C0 from by omega) rfl), fun U hU hW => ⟨rfl, k_pre hU hW hP hK hD⟩⟩ rfl rfl hl.1 rfl (lv_room (Nat.le_of_ble_eq_true rfl)) dX3_perform_191 ⟨by show (7 * (gN C0 - gN C0) + (gE C0 - gE C0) / 256) + 0 ≤ 7 * (80 - gN C0) + (1048576 - gE C0) / 256; omega, by show (108 * (gN C0 - gN C0) + 2 * (gE C0 - gE C0)) + 0 ≤ 108 * (80 - gN C0) + 2 * (1048576 - gE C0); omega⟩) hS (fun q _ h => hFc q h) hFc (fun u t H1 locs ht hvm hw hB hz1 hk1 hS => ?_)
    obtain ⟨rfl, hg22, hh22⟩ := hw
    have hg22 : gN C22 = gN C0 := hg22
    have hh22 : gE C22 = gE C0 := hh22
    refine W.widen (k := (7 * (gN C22 - gN C0) + (gE C22 - gE C0) / 256)) (n := (108 * (gN C22 - gN C0) + 2 * (gE C22 - gE C0))) (by omega) (by omega) ?_
    obtain ⟨hP1, hK1, hD1⟩ := hB
    rw [ht] at hP1
    have hP := hP1
    have hD := k_weak hD1 hFc
    generalize H1 = H at hP hS ⊢
    have hP : va_P D vwCl (cW cI cJ cO h xa ea0 pa0 C22) _ := hP
    have hD : va_D A (cW cI cJ cO h xa ea0 pa0 C22) := hD
    refine lv_iconst (v := 1) hx hb dX3_perform_194 (by decide) ?_
    obtain ⟨e2, e3⟩ := k_so hq
    subst hQ
    have hP : va_P D vwCl (cW cI cJ cO h xa ea0 pa0 C22) _ := hP
    have hD : va_D A (cW cI cJ cO h xa ea0 pa0 C22) := hD
    have hgE := congrArg (fun X : CS => gN X) e3
    have hgE : gN C22 = gN C' := hgE
    have hhE := congrArg (fun X : CS => gE X) e3
    have hhE : gE C22 = gE C' := hhE
    refine k_facts (fun hm1 hm2 hm3 => ?_)
    refine W.widen (k := 7 * (80 - gN C0) + (1048576 - gE C0) / 256) (n := 108 * (80 - gN C0) + 2 * (1048576 - gE C0)) (by omega) (by omega) ?_
    exact W.zret (v := 1) hx hb hr (by decide) (fun t ht hW => ⟨⟨1, (cW cI cJ cO h xa ea0 pa0 C22, [(cI, .int), (cO, .object RX0), (cJ, .long)]), rfl, ⟨ea0, pa0, e2, (congrArg (fun X : CS => ((cW cI cJ cO h xa ea0 pa0 X, [(cI, .int), (cO, .object RX0), (cJ, .long)]) : va_W × List (ClassId × FieldType))) e3), (by show gN C0 ≤ gN C' ∧ gN C' ≤ 80 ∧ gE C0 ≤ gE C' ∧ gE C' ≤ 1048576; omega), hpa⟩, ⟨⟨by rw [ht]; exact hP, va_K.moved hW.alike hK, hD⟩, by rw [ht]; exact hm3, by rw [ht]; omega, by rw [ht]; omega⟩⟩, hS.F ht⟩) hS.2.2 dX3_perform_195
  rw [if_neg hs5_7] at hq
  by_cases hs5_8 : (f_X3_opOf x2).toInt = 8
  · skip
    rw [if_pos hs5_8] at hq
    refine lv_tableIn (off := 173) (tgt := 196) hx hb dX3_perform_23 (by rw [hs5_8]; decide) (by rw [hs5_8]; decide) (by rw [hs5_8]; rfl) (by decide) ?_
    refine lv_aload_n hx hb dX3_perform_196 rfl (lv_at hl 2 rfl) ?_
    refine lv_dup hx hb dX3_perform_197 rfl ?_
    refine va_get (D := D) (ci := 0) (v := .int (gP C0 x1.toNatClampNeg 14)) (C := RX0) (T := TX0) (N := 20) hx hb hts kin_X3_perform_X0 hown hK hP (16 + (7 * x1.toNatClampNeg + 0)) (cW_get (show x1.toNatClampNeg < gN C0 from by omega) rfl) rfl 14 (by decide) (hts _ kw_X3_perform__fieldLink_RX3_129_ActHouse_Act_at_I_) (fun _ h9 => h9) rfl dX3_perform_198 ?_
    refine lv_aload_n hx hb dX3_perform_201 rfl (lv_at hl 2 rfl) ?_
    refine va_get (D := D) (ci := 0) (v := .int (gP C0 x1.toNatClampNeg 13)) (C := RX0) (T := TX0) (N := 20) hx hb hts kin_X3_perform_X0 hown hK hP (16 + (7 * x1.toNatClampNeg + 0)) (cW_get (show x1.toNatClampNeg < gN C0 from by omega) rfl) rfl 13 (by decide) (hts _ kw_X3_perform__fieldLink_RX3_148_ActHouse_Act_register_I_) (fun _ h9 => h9) rfl dX3_perform_202 ?_
    refine lv_if_ge (tgt := 213) hx hb dX3_perform_205 (by decide) (fun c23 => ?_) (fun c23 => ?_)
    · skip
      rw [if_pos c23] at hq
      refine lv_iconst (v := 0) hx hb dX3_perform_213 (by decide) ?_
      refine lv_iadd hx hb dX3_perform_214 ?_
      refine va_put (D := D) (ci := 0) (v := .int ((gP C0 x1.toNatClampNeg 14) + 0)) (ty := .int) (C := RX0) (T := TX0) (N := 20) hx hb hts kin_X3_perform_X0 tyX0 tyX0_ok nmX0 hown hK hP hD hS (16 + (7 * x1.toNatClampNeg + 0)) (fs := aF (pa0 x1.toNatClampNeg) (gP C0 x1.toNatClampNeg)) (cW_get (show x1.toNatClampNeg < gN C0 from by omega) rfl) rfl 14 (by decide) (hts _ kw_X3_perform__fieldLink_RX3_129_ActHouse_Act_at_I_) (fun _ h9 => h9) rfl (by decide +kernel) rfl rfl (Nat.le_of_ble_eq_true rfl) dX3_perform_215 (fun H locs hP hD hS => ?_)
      obtain ⟨C24, eC24, hg24, hh24, hq⟩ := k_lc (C := C0) hq rfl rfl
      rw [cP_eq14 (show x1.toNatClampNeg < gN C0 from by omega), ← eC24] at hP hD
      have hP : va_P D vwCl (cW cI cJ cO h xa ea0 pa0 C24) _ := hP
      have hD : va_D A (cW cI cJ cO h xa ea0 pa0 C24) := hD
      refine W.widen (k := (7 * (gN C24 - gN C0) + (gE C24 - gE C0) / 256)) (n := (108 * (gN C24 - gN C0) + 2 * (gE C24 - gE C0))) (by omega) (by omega) ?_
      refine lv_iconst (v := 1) hx hb dX3_perform_218 (by decide) ?_
      obtain ⟨e2, e3⟩ := k_so hq
      subst hQ
      have hP : va_P D vwCl (cW cI cJ cO h xa ea0 pa0 C24) _ := hP
      have hD : va_D A (cW cI cJ cO h xa ea0 pa0 C24) := hD
      have hgE := congrArg (fun X : CS => gN X) e3
      have hgE : gN C24 = gN C' := hgE
      have hhE := congrArg (fun X : CS => gE X) e3
      have hhE : gE C24 = gE C' := hhE
      refine k_facts (fun hm1 hm2 hm3 => ?_)
      refine W.widen (k := 7 * (80 - gN C0) + (1048576 - gE C0) / 256) (n := 108 * (80 - gN C0) + 2 * (1048576 - gE C0)) (by omega) (by omega) ?_
      exact W.zret (v := 1) hx hb hr (by decide) (fun t ht hW => ⟨⟨1, (cW cI cJ cO h xa ea0 pa0 C24, [(cI, .int), (cO, .object RX0), (cJ, .long)]), rfl, ⟨ea0, pa0, e2, (congrArg (fun X : CS => ((cW cI cJ cO h xa ea0 pa0 X, [(cI, .int), (cO, .object RX0), (cJ, .long)]) : va_W × List (ClassId × FieldType))) e3), (by show gN C0 ≤ gN C' ∧ gN C' ≤ 80 ∧ gE C0 ≤ gE C' ∧ gE C' ≤ 1048576; omega), hpa⟩, ⟨⟨by rw [ht]; exact hP, va_K.moved hW.alike hK, hD⟩, by rw [ht]; exact hm3, by rw [ht]; omega, by rw [ht]; omega⟩⟩, hS.F ht⟩) hS.2.2 dX3_perform_219
    · skip
      rw [if_neg c23] at hq
      refine lv_iload hx hb dX3_perform_208 (lv_at hl 0 rfl) ?_
      refine lv_goto (tgt := 214) hx hb dX3_perform_210 (by decide) ?_
      refine lv_iadd hx hb dX3_perform_214 ?_
      refine va_put (D := D) (ci := 0) (v := .int ((gP C0 x1.toNatClampNeg 14) + (f_X3_bOf x2))) (ty := .int) (C := RX0) (T := TX0) (N := 20) hx hb hts kin_X3_perform_X0 tyX0 tyX0_ok nmX0 hown hK hP hD hS (16 + (7 * x1.toNatClampNeg + 0)) (fs := aF (pa0 x1.toNatClampNeg) (gP C0 x1.toNatClampNeg)) (cW_get (show x1.toNatClampNeg < gN C0 from by omega) rfl) rfl 14 (by decide) (hts _ kw_X3_perform__fieldLink_RX3_129_ActHouse_Act_at_I_) (fun _ h9 => h9) rfl (by decide +kernel) rfl rfl (Nat.le_of_ble_eq_true rfl) dX3_perform_215 (fun H locs hP hD hS => ?_)
      obtain ⟨C25, eC25, hg25, hh25, hq⟩ := k_lc (C := C0) hq rfl rfl
      rw [cP_eq14 (show x1.toNatClampNeg < gN C0 from by omega), ← eC25] at hP hD
      have hP : va_P D vwCl (cW cI cJ cO h xa ea0 pa0 C25) _ := hP
      have hD : va_D A (cW cI cJ cO h xa ea0 pa0 C25) := hD
      refine W.widen (k := (7 * (gN C25 - gN C0) + (gE C25 - gE C0) / 256)) (n := (108 * (gN C25 - gN C0) + 2 * (gE C25 - gE C0))) (by omega) (by omega) ?_
      refine lv_iconst (v := 1) hx hb dX3_perform_218 (by decide) ?_
      obtain ⟨e2, e3⟩ := k_so hq
      subst hQ
      have hP : va_P D vwCl (cW cI cJ cO h xa ea0 pa0 C25) _ := hP
      have hD : va_D A (cW cI cJ cO h xa ea0 pa0 C25) := hD
      have hgE := congrArg (fun X : CS => gN X) e3
      have hgE : gN C25 = gN C' := hgE
      have hhE := congrArg (fun X : CS => gE X) e3
      have hhE : gE C25 = gE C' := hhE
      refine k_facts (fun hm1 hm2 hm3 => ?_)
      refine W.widen (k := 7 * (80 - gN C0) + (1048576 - gE C0) / 256) (n := 108 * (80 - gN C0) + 2 * (1048576 - gE C0)) (by omega) (by omega) ?_
      exact W.zret (v := 1) hx hb hr (by decide) (fun t ht hW => ⟨⟨1, (cW cI cJ cO h xa ea0 pa0 C25, [(cI, .int), (cO, .object RX0), (cJ, .long)]), rfl, ⟨ea0, pa0, e2, (congrArg (fun X : CS => ((cW cI cJ cO h xa ea0 pa0 X, [(cI, .int), (cO, .object RX0), (cJ, .long)]) : va_W × List (ClassId × FieldType))) e3), (by show gN C0 ≤ gN C' ∧ gN C' ≤ 80 ∧ gE C0 ≤ gE C' ∧ gE C' ≤ 1048576; omega), hpa⟩, ⟨⟨by rw [ht]; exact hP, va_K.moved hW.alike hK, hD⟩, by rw [ht]; exact hm3, by rw [ht]; omega, by rw [ht]; omega⟩⟩, hS.F ht⟩) hS.2.2 dX3_perform_219
  rw [if_neg hs5_8] at hq
  refine lv_tableOut (tgt := 220) hx hb dX3_perform_23 (by omega) (by decide) ?_
  refine lv_iconst (v := 1) hx hb dX3_perform_220 (by decide) ?_
  obtain ⟨e2, e3⟩ := k_so hq
  subst hQ
  have hP : va_P D vwCl (cW cI cJ cO h xa ea0 pa0 C0) _ := hP
  have hD : va_D A (cW cI cJ cO h xa ea0 pa0 C0) := hD
  have hgE := congrArg (fun X : CS => gN X) e3
  have hgE : gN C0 = gN C' := hgE
  have hhE := congrArg (fun X : CS => gE X) e3
  have hhE : gE C0 = gE C' := hhE
  refine k_facts (fun hm1 hm2 hm3 => ?_)
  refine W.widen (k := 7 * (80 - gN C0) + (1048576 - gE C0) / 256) (n := 108 * (80 - gN C0) + 2 * (1048576 - gE C0)) (by omega) (by omega) ?_
  exact W.zret (v := 1) hx hb hr (by decide) (fun t ht hW => ⟨⟨1, (cW cI cJ cO h xa ea0 pa0 C0, [(cI, .int), (cO, .object RX0), (cJ, .long)]), rfl, ⟨ea0, pa0, e2, (congrArg (fun X : CS => ((cW cI cJ cO h xa ea0 pa0 X, [(cI, .int), (cO, .object RX0), (cJ, .long)]) : va_W × List (ClassId × FieldType))) e3), (by show gN C0 ≤ gN C' ∧ gN C' ≤ 80 ∧ gE C0 ≤ gE C' ∧ gE C' ≤ 1048576; omega), hpa⟩, ⟨⟨by rw [ht]; exact hP, va_K.moved hW.alike hK, hD⟩, by rw [ht]; exact hm3, by rw [ht]; omega, by rw [ht]; omega⟩⟩, hS.F ht⟩) hS.2.2 dX3_perform_221
set_option maxRecDepth 100000 in
theorem kw_X3_stopAct__fieldLink_RX3_27_ActHouse_acts_LActHouse_Act_ : (.fieldLink RX3 27 "ActHouse" "acts" "[LActHouse$Act;" : Cond) ∈ wsX3_stopAct := by decide +kernel
set_option maxRecDepth 100000 in
theorem kin_X3_stopAct_X3 : ∀ w ∈ u_ws RX3 TX3 18, w ∈ wsX3_stopAct := by decide +kernel
set_option maxRecDepth 100000 in
theorem kw_X3_stopAct__fieldLink_RX3_46_ActHouse_book_LActHouse_LogBook_ : (.fieldLink RX3 46 "ActHouse" "book" "LActHouse$LogBook;" : Cond) ∈ wsX3_stopAct := by decide +kernel
set_option maxRecDepth 100000 in
theorem kw_X3_stopAct__fieldLink_RX3_79_ActHouse_now_I_ : (.fieldLink RX3 79 "ActHouse" "now" "I" : Cond) ∈ wsX3_stopAct := by decide +kernel
set_option maxRecDepth 100000 in
theorem kw_X3_stopAct__fieldLink_RX3_258_ActHouse_Act_entry_I_ : (.fieldLink RX3 258 "ActHouse$Act" "entry" "I" : Cond) ∈ wsX3_stopAct := by decide +kernel
set_option maxRecDepth 100000 in
theorem kin_X3_stopAct_X0 : ∀ w ∈ u_ws RX0 TX0 20, w ∈ wsX3_stopAct := by decide +kernel
def f_X3_stopAct (x1 : Int32) (C0 : CS) : Option (Int32 × CS) := (if (0 ≤ x1.toInt ∧ x1.toInt < 80) ∧ x1.toNatClampNeg < gN C0 then (k_bind (f_X0_leave x1.toNatClampNeg (4 : Int32) C0) fun r2 C2 => (k_bind (f_X1_write (3 : Int32) x1 ((-1) : Int32) (C2.1 15) C2) fun r3 C3 => (k_let (cP C3 x1.toNatClampNeg 18 r3) fun C4 => some ((0 : Int32), C4)))) else none)
set_option maxHeartbeats 4000000 in
set_option maxRecDepth 100000 in
theorem c_X3_stopAct {l : Launch} {D : va_G} {hp : Heap} {cI cJ cO : ClassId} {h : Nat} {xa : Nat → Nat} {ea0 : Nat} {pa0 : Nat → Nat → Nat} {C0 C' : CS} {x1 r' : Int32} (hg : gN C0 ≤ 80 ∧ gE C0 ≤ 1048576) (hf : f_X3_stopAct x1 C0 = some (r', C')) : Met l yX3_stopAct wsX3_stopAct ({ frames := 3, cells := 7 * (80 - gN C0) + (1048576 - gE C0) / 256, slots := 108 * (80 - gN C0) + 2 * (1048576 - gE C0), locals := 86 }) (va_Pc [.ref h, .int x1] (k_PreH D [(cI, .int), (cO, .object RX0), (cJ, .long)] (cW cI cJ cO h xa ea0 pa0 C0) hp)) (va_Qv (fun (u : va_W × List (ClassId × FieldType)) => ∃ (ea' : Nat) (pa' : Nat → Nat → Nat), u = (cW cI cJ cO h xa ea' pa' C', [(cI, .int), (cO, .object RX0), (cJ, .long)]) ∧ (gN C0 ≤ gN C' ∧ gN C' ≤ 80 ∧ gE C0 ≤ gE C' ∧ gE C' ≤ 1048576) ∧ ∀ n, n < gN C0 → pa' n = pa0 n) (k_BM D (va_A (cW cI cJ cO h xa ea0 pa0 C0) hp.size) hp (7 * (gN C' - gN C0) + (gE C' - gE C0) / 256) (108 * (gN C' - gN C0) + 2 * (gE C' - gE C0))) (va_A (cW cI cJ cO h xa ea0 pa0 C0) hp.size)) (7 * (80 - gN C0) + (1048576 - gE C0) / 256) (108 * (80 - gN C0) + 2 * (1048576 - gE C0)) (va_A (cW cI cJ cO h xa ea0 pa0 C0) hp.size) := by
  refine Met.ofW (cc := cX3_stopAct) (maxL := 3) (ret := none) (by decide) rfl ?_
  intro p e s m args below meth c s₁ B hml hv
  obtain ⟨rfl, hsz, hP, hK, hD0⟩ := hv
  have hx := B.exec
  have hb := B.bytes
  have hr := B.returns
  have hts := atoms_spec (ws := wsX3_stopAct) B.pre
  have hown : s.vm.findClass RX3 = some m.cls := findClass_of_methodNamed B.named
  have hlocks := B.notSynchronized
  have hsz : s.heap = hp := hsz
  subst hsz
  have hD := hD0.self (sz := s.heap.size)
  generalize hAe : va_A (cW cI cJ cO h xa ea0 pa0 C0) s.heap.size = A at hD ⊢
  have hA : ∀ q : Nat, s.heap.size ≤ q → A q := fun q h => by rw [← hAe]; exact Or.inr h
  have hS : va_S A s.heap s.heap [] := va_S.rf
  have hl := lv_entry ([.ref h, .int x1]) (n := 3) (Nat.le_of_ble_eq_true rfl)
  rw [lg_entry_eq]
  generalize (lg_sl ([.ref h, .int x1]) ++ List.replicate (3 - (lg_sl ([.ref h, .int x1])).length) Slot.unset).toArray = ls at hl ⊢
  have hl : lv_has ls 3 [(0, .ref h), (1, .int x1)] := hl
  refine k_Q (fun Q hQ => ?_)
  refine W.widen (k := (7 * (gN C0 - gN C0) + (gE C0 - gE C0) / 256)) (n := (108 * (gN C0 - gN C0) + 2 * (gE C0 - gE C0))) (by omega) (by omega) ?_
  have hpa : ∀ n, n < gN C0 → pa0 n = pa0 n := fun _ _ => rfl
  have hq := hf
  rw [f_X3_stopAct] at hq
  refine lv_aload_n hx hb dX3_stopAct_0 rfl (lv_at hl 0 rfl) ?_
  refine va_get (D := D) (ci := 3) (v := .ref (xa 5)) (C := RX3) (T := TX3) (N := 18) hx hb hts kin_X3_stopAct_X3 hown hK hP 0 rfl rfl 5 (by decide) (hts _ kw_X3_stopAct__fieldLink_RX3_27_ActHouse_acts_LActHouse_Act_) (fun _ h9 => h9) rfl dX3_stopAct_1 ?_
  refine lv_iload_n hx hb dX3_stopAct_4 rfl (lv_at hl 1 rfl) ?_
  obtain ⟨b1, hq⟩ := k_if hq
  refine va_aldq hx hb hK hP 6 1 (f := cActs pa0 (gN C0)) rfl rfl (k_in b1.1.1 b1.1.2) dX3_stopAct_5 ?_
  refine W.eq (g2 := F0 m 6 ls [.ref (pa0 x1.toNatClampNeg 0)]) (by rw [cActs_lt b1.2]; rfl) ?_
  refine lv_astore_n (lv' := [(2, .ref (pa0 x1.toNatClampNeg 0)), (0, .ref h), (1, .int x1)]) hx hb dX3_stopAct_6 rfl hl (by decide) rfl (fun ls hl => ?_)
  refine lv_aload_n hx hb dX3_stopAct_7 rfl (lv_at hl 0 rfl) ?_
  refine lv_iconst (v := 4) hx hb dX3_stopAct_8 (by decide) ?_
  obtain ⟨r2, C2, h2, hq⟩ := k_bd hq
  have hFc := k_free hD hS hA
  refine va_callv (va_runV (As := [.int 4]) (rest := []) ⟨hx, hb, hml, hown, hts⟩ (c_X0_leave (l := l) (D := D) (cI := cI) (cJ := cJ) (cO := cO) (h := h) (xa := xa) (ea0 := ea0) (pa0 := pa0)  (hn0 := by show x1.toNatClampNeg < gN C0; omega) (hf := h2)) (cwV 1 hts gX3_stopAct_X0_leave rfl rfl rfl (by decide +kernel) ⟨Nat.le_of_ble_eq_true rfl, Nat.le_of_ble_eq_true rfl⟩) ⟨k_blind, va_recv hK hP (ci := 0) (q0 := (16 + (7 * x1.toNatClampNeg + 0))) rfl (cW_get (show x1.toNatClampNeg < gN C0 from by omega) rfl), fun U hU hW => ⟨rfl, k_pre hU hW hP hK hD⟩⟩ rfl rfl hl.1 rfl (lv_room (Nat.le_of_ble_eq_true rfl)) dX3_stopAct_9 ⟨by show (7 * (gN C0 - gN C0) + (gE C0 - gE C0) / 256) + 0 ≤ 7 * (80 - gN C0) + (1048576 - gE C0) / 256; omega, by show (108 * (gN C0 - gN C0) + 2 * (gE C0 - gE C0)) + 0 ≤ 108 * (80 - gN C0) + 2 * (1048576 - gE C0); omega⟩) hS (fun q _ h => hFc q h) hFc (fun u t H1 locs ht hvm hw hB hz1 hk1 hS => ?_)
  obtain ⟨rfl, hg2, hh2⟩ := hw
  have hg2 : gN C2 = gN C0 := hg2
  have hh2 : gE C2 = gE C0 := hh2
  refine W.widen (k := (7 * (gN C2 - gN C0) + (gE C2 - gE C0) / 256)) (n := (108 * (gN C2 - gN C0) + 2 * (gE C2 - gE C0))) (by omega) (by omega) ?_
  obtain ⟨hP1, hK1, hD1⟩ := hB
  rw [ht] at hP1
  have hP := hP1
  have hD := k_weak hD1 hFc
  generalize H1 = H at hP hS ⊢
  have hP : va_P D vwCl (cW cI cJ cO h xa ea0 pa0 C2) _ := hP
  have hD : va_D A (cW cI cJ cO h xa ea0 pa0 C2) := hD
  refine lv_aload_n hx hb dX3_stopAct_12 rfl (lv_at hl 0 rfl) ?_
  refine lv_aload_n hx hb dX3_stopAct_13 rfl (lv_at hl 1 rfl) ?_
  refine va_get (D := D) (ci := 3) (v := .ref (xa 10)) (C := RX3) (T := TX3) (N := 18) hx hb hts kin_X3_stopAct_X3 hown hK hP 0 rfl rfl 10 (by decide) (hts _ kw_X3_stopAct__fieldLink_RX3_46_ActHouse_book_LActHouse_LogBook_) (fun _ h9 => h9) rfl dX3_stopAct_14 ?_
  refine lv_iconst (v := 3) hx hb dX3_stopAct_17 (by decide) ?_
  refine lv_iload_n hx hb dX3_stopAct_18 rfl (lv_at hl 2 rfl) ?_
  refine lv_iconst (v := (-1)) hx hb dX3_stopAct_19 (by decide) ?_
  refine lv_aload_n hx hb dX3_stopAct_20 rfl (lv_at hl 1 rfl) ?_
  refine va_get (D := D) (ci := 3) (v := .int (C2.1 15)) (C := RX3) (T := TX3) (N := 18) hx hb hts kin_X3_stopAct_X3 hown hK hP 0 rfl rfl 15 (by decide) (hts _ kw_X3_stopAct__fieldLink_RX3_79_ActHouse_now_I_) (fun _ h9 => h9) rfl dX3_stopAct_21 ?_
  obtain ⟨q3, C3, h3, hq⟩ := k_bd hq
  have hFc := k_free hD hS hA
  refine k_facts (fun hn1 hn2 hn3 => ?_)
  refine va_calli (va_runV (As := [.int 3, .int x1, .int (-1), .int (C2.1 15)]) (rest := [.ref (pa0 x1.toNatClampNeg 0)]) ⟨hx, hb, hml, hown, hts⟩ (c_X1_write (l := l) (D := D) (cI := cI) (cJ := cJ) (cO := cO) (h := h) (xa := xa) (ea0 := ea0) (pa0 := pa0)  (hg := by show gN C2 ≤ 80 ∧ gE C2 ≤ 1048576; omega) (hf := h3)) (cwV 4 hts gX3_stopAct_X1_write rfl rfl rfl (by decide +kernel) ⟨Nat.le_of_ble_eq_true rfl, Nat.le_of_ble_eq_true rfl⟩) ⟨k_blindH, va_recv hK hP (ci := 1) (q0 := 11) rfl rfl, fun U hU hW => ⟨rfl, k_preH hU hW hP hK hD⟩⟩ rfl rfl hl.1 rfl (lv_room (Nat.le_of_ble_eq_true rfl)) dX3_stopAct_24 ⟨by show (7 * (gN C2 - gN C0) + (gE C2 - gE C0) / 256) + (7 * (80 - gN C2) + (1048576 - gE C2) / 256) ≤ 7 * (80 - gN C0) + (1048576 - gE C0) / 256; omega, by show (108 * (gN C2 - gN C0) + 2 * (gE C2 - gE C0)) + (108 * (80 - gN C2) + 2 * (1048576 - gE C2)) ≤ 108 * (80 - gN C0) + 2 * (1048576 - gE C0); omega⟩) hS (fun q _ h => hFc q h) hFc (fun r3 u t H1 locs ht hvm hw hB hz1 hk1 hS => ?_)
  obtain ⟨ea3, pa3, rfl, rfl, hg3, hp3⟩ := hw
  have hg3 : gN C2 ≤ gN C3 ∧ gN C3 ≤ 80 ∧ gE C2 ≤ gE C3 ∧ gE C3 ≤ 1048576 := hg3
  have hpa : ∀ n, n < gN C0 → pa3 n = pa0 n := fun n hn => (hp3 n (by show n < gN C2; omega)).trans (hpa n hn)
  obtain ⟨hB, hz2, hz3, hz4⟩ := hB
  rw [ht] at hz2 hz3 hz4
  refine k_tight (k := (7 * (gN C3 - gN C0) + (gE C3 - gE C0) / 256)) (n := (108 * (gN C3 - gN C0) + 2 * (gE C3 - gE C0))) (by omega) (by rw [k_nS_tr hn3.1 hz2]; omega) ?_
  have hl : lv_has ls 3 [(2, .ref (pa3 x1.toNatClampNeg 0)), (0, .ref h), (1, .int x1)] := by rw [hp3 x1.toNatClampNeg (by show x1.toNatClampNeg < gN C2; omega)]; exact hl
  refine W.eq (g2 := F0 m 27 ls [.int r3, .ref (pa3 x1.toNatClampNeg 0)]) (by rw [hp3 x1.toNatClampNeg (by show x1.toNatClampNeg < gN C2; omega)]) ?_
  obtain ⟨hP1, hK1, hD1⟩ := hB
  rw [ht] at hP1
  have hP := hP1
  have hD := k_weak hD1 hFc
  generalize H1 = H at hP hS ⊢
  have hP : va_P D vwCl (cW cI cJ cO h xa ea3 pa3 C3) _ := hP
  have hD : va_D A (cW cI cJ cO h xa ea3 pa3 C3) := hD
  refine va_put (D := D) (ci := 0) (v := .int r3) (ty := .int) (C := RX0) (T := TX0) (N := 20) hx hb hts kin_X3_stopAct_X0 tyX0 tyX0_ok nmX0 hown hK hP hD hS (16 + (7 * x1.toNatClampNeg + 0)) (fs := aF (pa3 x1.toNatClampNeg) (gP C3 x1.toNatClampNeg)) (cW_get (show x1.toNatClampNeg < gN C3 from by omega) rfl) rfl 18 (by decide) (hts _ kw_X3_stopAct__fieldLink_RX3_258_ActHouse_Act_entry_I_) (fun _ h9 => h9) rfl (by decide +kernel) rfl rfl (Nat.le_of_ble_eq_true rfl) dX3_stopAct_27 (fun H locs hP hD hS => ?_)
  obtain ⟨C4, eC4, hg4, hh4, hq⟩ := k_lc (C := C3) hq rfl rfl
  rw [cP_eq18 (show x1.toNatClampNeg < gN C3 from by omega), ← eC4] at hP hD
  have hP : va_P D vwCl (cW cI cJ cO h xa ea3 pa3 C4) _ := hP
  have hD : va_D A (cW cI cJ cO h xa ea3 pa3 C4) := hD
  refine W.widen (k := (7 * (gN C4 - gN C0) + (gE C4 - gE C0) / 256)) (n := (108 * (gN C4 - gN C0) + 2 * (gE C4 - gE C0))) (by omega) (by omega) ?_
  obtain ⟨e2, e3⟩ := k_so hq
  subst hQ
  have hP : va_P D vwCl (cW cI cJ cO h xa ea3 pa3 C4) _ := hP
  have hD : va_D A (cW cI cJ cO h xa ea3 pa3 C4) := hD
  have hgE := congrArg (fun X : CS => gN X) e3
  have hgE : gN C4 = gN C' := hgE
  have hhE := congrArg (fun X : CS => gE X) e3
  have hhE : gE C4 = gE C' := hhE
  refine k_facts (fun hm1 hm2 hm3 => ?_)
  refine W.widen (k := 7 * (80 - gN C0) + (1048576 - gE C0) / 256) (n := 108 * (80 - gN C0) + 2 * (1048576 - gE C0)) (by omega) (by omega) ?_
  exact W.vret hx hb hr (fun t ht hW => ⟨⟨(cW cI cJ cO h xa ea3 pa3 C4, [(cI, .int), (cO, .object RX0), (cJ, .long)]), rfl, ⟨ea3, pa3, (congrArg (fun X : CS => ((cW cI cJ cO h xa ea3 pa3 X, [(cI, .int), (cO, .object RX0), (cJ, .long)]) : va_W × List (ClassId × FieldType))) e3), (by show gN C0 ≤ gN C' ∧ gN C' ≤ 80 ∧ gE C0 ≤ gE C' ∧ gE C' ≤ 1048576; omega), hpa⟩, ⟨⟨by rw [ht]; exact hP, va_K.moved hW.alike hK, hD⟩, by rw [ht]; exact hm3, by rw [ht]; omega, by rw [ht]; omega⟩⟩, hS.F ht⟩) hS.2.2 dX3_stopAct_30
set_option maxRecDepth 100000 in
theorem kw_X3_tellValues__fieldLink_RX3_22_ActHouse_values_I_ : (.fieldLink RX3 22 "ActHouse" "values" "[I" : Cond) ∈ wsX3_tellValues := by decide +kernel
set_option maxRecDepth 100000 in
theorem kin_X3_tellValues_X3 : ∀ w ∈ u_ws RX3 TX3 18, w ∈ wsX3_tellValues := by decide +kernel
def f_X3_tellValues_2  : Nat → Nat → Int32 → CS → Option (Int32 × CS)
  | 0, _, _, _ => none
  | k + 1, y1, v2, C => (if 32 ≤ v2 then some ((0 : Int32), C) else (if 0 ≤ v2.toInt ∧ v2.toInt < 32 then (k_bind (f_X0_valueAfter y1 v2 ((C.2.1 4) v2.toNatClampNeg) C) fun r3 C3 => (k_let (cAF C3 4 (upd (C3.2.1 4) v2.toNatClampNeg r3)) fun C4 => f_X3_tellValues_2  k y1 (v2 + 1) C4)) else none))
def f_X3_tellValues (n1 : Nat) (C0 : CS) : Option (Int32 × CS) := f_X3_tellValues_2  200 n1 (0 : Int32) C0
set_option maxHeartbeats 4000000 in
set_option maxRecDepth 100000 in
theorem c_X3_tellValues {l : Launch} {D : va_G} {sz : Nat} {cI cJ cO : ClassId} {h : Nat} {xa : Nat → Nat} {ea0 : Nat} {pa0 : Nat → Nat → Nat} {C0 C' : CS} {n1 : Nat} { r' : Int32} (hn1 : n1 < gN C0) (hf : f_X3_tellValues n1 C0 = some (r', C')) : Met l yX3_tellValues wsX3_tellValues ({ frames := 1, cells := 0, slots := 0, locals := 22 }) (va_Pc [.ref h, .ref (pa0 n1 0)] (k_Pre D [(cI, .int), (cO, .object RX0), (cJ, .long)] (cW cI cJ cO h xa ea0 pa0 C0) sz)) (va_Qv (fun (u : va_W × List (ClassId × FieldType)) => u = (cW cI cJ cO h xa ea0 pa0 C', [(cI, .int), (cO, .object RX0), (cJ, .long)]) ∧ gN C' = gN C0 ∧ gE C' = gE C0) (k_B D (va_A (cW cI cJ cO h xa ea0 pa0 C0) sz)) (va_A (cW cI cJ cO h xa ea0 pa0 C0) sz)) (0) (0) (va_A (cW cI cJ cO h xa ea0 pa0 C0) sz) := by
  refine Met.ofW (cc := cX3_tellValues) (maxL := 3) (ret := none) (by decide) rfl ?_
  intro p e s m args below meth c s₁ B hml hv
  obtain ⟨rfl, hsz, hP, hK, hD0⟩ := hv
  have hx := B.exec
  have hb := B.bytes
  have hr := B.returns
  have hts := atoms_spec (ws := wsX3_tellValues) B.pre
  have hown : s.vm.findClass RX3 = some m.cls := findClass_of_methodNamed B.named
  have hlocks := B.notSynchronized
  subst hsz
  have hD := hD0.self (sz := s.heap.size)
  generalize hAe : va_A (cW cI cJ cO h xa ea0 pa0 C0) s.heap.size = A at hD ⊢
  have hA : ∀ q : Nat, s.heap.size ≤ q → A q := fun q h => by rw [← hAe]; exact Or.inr h
  have hS : va_S A s.heap s.heap [] := va_S.rf
  have hl := lv_entry ([.ref h, .ref (pa0 n1 0)]) (n := 3) (Nat.le_of_ble_eq_true rfl)
  rw [lg_entry_eq]
  generalize (lg_sl ([.ref h, .ref (pa0 n1 0)]) ++ List.replicate (3 - (lg_sl ([.ref h, .ref (pa0 n1 0)])).length) Slot.unset).toArray = ls at hl ⊢
  have hl : lv_has ls 3 [(0, .ref h), (1, .ref (pa0 n1 0))] := hl
  refine k_Q (fun Q hQ => ?_)
  have hg0 : gN C0 = gN C0 ∧ gE C0 = gE C0 := ⟨rfl, rfl⟩
  have B2 : ∀  (k : Nat), ∀ (y1 : Nat) (v2 : Int32)  (C : CS)  (H : Heap) (locs : List Loc) (ls : Array Slot), f_X3_tellValues_2  k y1 v2 C = some (r', C') → (gN C = gN C0 ∧ gE C = gE C0) → y1 < gN C → va_P D vwCl (cW cI cJ cO h xa ea0 pa0 C) H → va_D A (cW cI cJ cO h xa ea0 pa0 C) → va_S A s.heap H locs → lv_has ls 3 [(0, .ref h), (1, .ref (pa0 y1 0)), (2, .int v2)] → W p l e (headSpec wsX3_tellValues ({ frames := 1, cells := 0, slots := 0, locals := 22 })).room s m ([.ref h, .ref (pa0 n1 0)] : List Value).toArray below meth c H locs (0) (0) Q (F0 m 2 ls []) := by
    intro  k
    induction k with
    | zero =>
      intro y1 v2  C  H locs ls hq hg hn_y1 hP hD hS hl
      exact absurd hq (by rw [f_X3_tellValues_2]; exact k_non)
    | succ k ih =>
      intro y1 v2  C  H locs ls hq hg hn_y1 hP hD hS hl
      rw [f_X3_tellValues_2] at hq
      refine lv_iload_n hx hb dX3_tellValues_2 rfl (lv_at hl 2 rfl) ?_
      refine lv_bipush (v := 32) hx hb dX3_tellValues_3 (by decide) ?_
      refine lv_icmp_ge (tgt := 31) hx hb dX3_tellValues_5 (by decide) (fun c1 => ?_) (fun c1 => ?_)
      · skip
        rw [if_pos c1] at hq
        obtain ⟨e2, e3⟩ := k_so hq
        subst hQ
        have hP : va_P D vwCl (cW cI cJ cO h xa ea0 pa0 C) _ := hP
        have hD : va_D A (cW cI cJ cO h xa ea0 pa0 C) := hD
        have hgE := congrArg (fun X : CS => gN X) e3
        have hgE : gN C = gN C' := hgE
        have hhE := congrArg (fun X : CS => gE X) e3
        have hhE : gE C = gE C' := hhE
        refine W.widen (k := 0) (n := 0) (by decide) (by decide) ?_
        exact W.vret hx hb hr (fun t ht hW => ⟨⟨(cW cI cJ cO h xa ea0 pa0 C, [(cI, .int), (cO, .object RX0), (cJ, .long)]), rfl, ⟨(congrArg (fun X : CS => ((cW cI cJ cO h xa ea0 pa0 X, [(cI, .int), (cO, .object RX0), (cJ, .long)]) : va_W × List (ClassId × FieldType))) e3), by omega, by omega⟩, ⟨by rw [ht]; exact hP, va_K.moved hW.alike hK, hD⟩⟩, hS.F ht⟩) hS.2.2 dX3_tellValues_31
      · skip
        rw [if_neg c1] at hq
        refine lv_aload_n hx hb dX3_tellValues_8 rfl (lv_at hl 0 rfl) ?_
        refine va_get (D := D) (ci := 3) (v := .ref (xa 4)) (C := RX3) (T := TX3) (N := 18) hx hb hts kin_X3_tellValues_X3 hown hK hP 0 rfl rfl 4 (by decide) (hts _ kw_X3_tellValues__fieldLink_RX3_22_ActHouse_values_I_) (fun _ h9 => h9) rfl dX3_tellValues_9 ?_
        refine lv_iload_n hx hb dX3_tellValues_12 rfl (lv_at hl 2 rfl) ?_
        refine lv_aload_n hx hb dX3_tellValues_13 rfl (lv_at hl 1 rfl) ?_
        refine lv_iload_n hx hb dX3_tellValues_14 rfl (lv_at hl 2 rfl) ?_
        refine lv_aload_n hx hb dX3_tellValues_15 rfl (lv_at hl 0 rfl) ?_
        refine va_get (D := D) (ci := 3) (v := .ref (xa 4)) (C := RX3) (T := TX3) (N := 18) hx hb hts kin_X3_tellValues_X3 hown hK hP 0 rfl rfl 4 (by decide) (hts _ kw_X3_tellValues__fieldLink_RX3_22_ActHouse_values_I_) (fun _ h9 => h9) rfl dX3_tellValues_16 ?_
        refine lv_iload_n hx hb dX3_tellValues_19 rfl (lv_at hl 2 rfl) ?_
        obtain ⟨b2, hq⟩ := k_if hq
        refine va_iald hx hb hK hP 5 0 (f := (C.2.1 4)) rfl rfl (k_in b2.1 b2.2) dX3_tellValues_20 ?_
        obtain ⟨q3, C3, h3, hq⟩ := k_bd hq
        have hFc := k_free hD hS hA
        refine va_calli (va_runV (As := [.int v2, .int ((C.2.1 4) v2.toNatClampNeg)]) (rest := [.int v2, .ref (xa 4)]) ⟨hx, hb, hml, hown, hts⟩ (c_X0_valueAfter (l := l) (D := D) (cI := cI) (cJ := cJ) (cO := cO) (h := h) (xa := xa) (ea0 := ea0) (pa0 := pa0)  (hn0 := by show y1 < gN C; omega) (hf := h3)) (cwV 2 hts gX3_tellValues_X0_valueAfter rfl rfl rfl (by decide +kernel) ⟨Nat.le_of_ble_eq_true rfl, Nat.le_of_ble_eq_true rfl⟩) ⟨k_blind, va_recv hK hP (ci := 0) (q0 := (16 + (7 * y1 + 0))) rfl (cW_get (show y1 < gN C from by omega) rfl), fun U hU hW => ⟨rfl, k_pre hU hW hP hK hD⟩⟩ rfl rfl hl.1 rfl (lv_room (Nat.le_of_ble_eq_true rfl)) dX3_tellValues_21 ⟨by decide, by decide⟩) hS (fun q _ h => hFc q h) hFc (fun r3 u t H1 locs ht hvm hw hB hz1 hk1 hS => ?_)
        obtain ⟨rfl, rfl, hg3, hh3⟩ := hw
        have hg3 : gN C3 = gN C := hg3
        have hh3 : gE C3 = gE C := hh3
        refine W.widen (k := 0) (n := 0) (Nat.le_refl _) (Nat.le_refl _) ?_
        obtain ⟨hP1, hK1, hD1⟩ := hB
        rw [ht] at hP1
        have hP := hP1
        have hD := k_weak hD1 hFc
        generalize H1 = H at hP hS ⊢
        have hP : va_P D vwCl (cW cI cJ cO h xa ea0 pa0 C3) _ := hP
        have hD : va_D A (cW cI cJ cO h xa ea0 pa0 C3) := hD
        refine va_iast hx hb hK hP hD hS 5 0 (f := (C3.2.1 4)) rfl rfl (x := r3) (k_in b2.1 b2.2) dX3_tellValues_24 (fun H locs hP hD hS => ?_)
        obtain ⟨C4, eC4, hg4, hh4, hq⟩ := k_lc (C := C3) hq rfl rfl
        rw [cW_F4, ← eC4] at hP hD
        have hP : va_P D vwCl (cW cI cJ cO h xa ea0 pa0 C4) _ := hP
        have hD : va_D A (cW cI cJ cO h xa ea0 pa0 C4) := hD
        refine lv_iinc (v := v2 + 1) (lv' := [(2, .int (v2 + 1)), (0, .ref h), (1, .ref (pa0 y1 0))]) hx hb dX3_tellValues_25 hl (k := 2) rfl (by rfl) (by decide) rfl (fun ls hl => ?_)
        refine lv_goto (tgt := 2) hx hb dX3_tellValues_28 (by decide) ?_
        exact ih y1 (v2 + 1) C4  _ _ _ hq (by show (gN C4 = gN C0 ∧ gE C4 = gE C0); omega) (by show y1 < gN C4; omega) hP hD hS (lv_sub hl [1, 2, 0] rfl)
  have hq := hf
  rw [f_X3_tellValues] at hq
  refine lv_iconst (v := 0) hx hb dX3_tellValues_0 (by decide) ?_
  refine lv_istore_n (lv' := [(2, .int 0), (0, .ref h), (1, .ref (pa0 n1 0))]) hx hb dX3_tellValues_1 rfl hl (by decide) rfl (fun ls hl => ?_)
  exact B2  200 n1 (0 : Int32) C0  _ _ _ hq (by show (gN C0 = gN C0 ∧ gE C0 = gE C0); omega) (by show n1 < gN C0; omega) hP hD hS (lv_sub hl [1, 2, 0] rfl)
set_option maxRecDepth 100000 in
theorem kw_X3_finishAct__fieldLink_RX3_27_ActHouse_acts_LActHouse_Act_ : (.fieldLink RX3 27 "ActHouse" "acts" "[LActHouse$Act;" : Cond) ∈ wsX3_finishAct := by decide +kernel
set_option maxRecDepth 100000 in
theorem kin_X3_finishAct_X3 : ∀ w ∈ u_ws RX3 TX3 18, w ∈ wsX3_finishAct := by decide +kernel
set_option maxRecDepth 100000 in
theorem kw_X3_finishAct__fieldLink_RX3_117_ActHouse_Act_state_I_ : (.fieldLink RX3 117 "ActHouse$Act" "state" "I" : Cond) ∈ wsX3_finishAct := by decide +kernel
set_option maxRecDepth 100000 in
theorem kin_X3_finishAct_X0 : ∀ w ∈ u_ws RX0 TX0 20, w ∈ wsX3_finishAct := by decide +kernel
set_option maxRecDepth 100000 in
theorem kw_X3_finishAct__fieldLink_RX3_79_ActHouse_now_I_ : (.fieldLink RX3 79 "ActHouse" "now" "I" : Cond) ∈ wsX3_finishAct := by decide +kernel
set_option maxRecDepth 100000 in
theorem kw_X3_finishAct__fieldLink_RX3_135_ActHouse_Act_doneTick_I_ : (.fieldLink RX3 135 "ActHouse$Act" "doneTick" "I" : Cond) ∈ wsX3_finishAct := by decide +kernel
set_option maxRecDepth 100000 in
theorem kw_X3_finishAct__fieldLink_RX3_46_ActHouse_book_LActHouse_LogBook_ : (.fieldLink RX3 46 "ActHouse" "book" "LActHouse$LogBook;" : Cond) ∈ wsX3_finishAct := by decide +kernel
set_option maxRecDepth 100000 in
theorem kw_X3_finishAct__fieldLink_RX3_258_ActHouse_Act_entry_I_ : (.fieldLink RX3 258 "ActHouse$Act" "entry" "I" : Cond) ∈ wsX3_finishAct := by decide +kernel
set_option maxRecDepth 100000 in
theorem kw_X3_finishAct__fieldLink_RX3_154_ActHouse_doneCount_I_ : (.fieldLink RX3 154 "ActHouse" "doneCount" "I" : Cond) ∈ wsX3_finishAct := by decide +kernel
set_option maxRecDepth 100000 in
theorem kw_X3_finishAct__fieldLink_RX3_265_ActHouse_Act_queueLength_I_ : (.fieldLink RX3 265 "ActHouse$Act" "queueLength" "I" : Cond) ∈ wsX3_finishAct := by decide +kernel
set_option maxRecDepth 100000 in
theorem kw_X3_finishAct__fieldLink_RX3_268_ActHouse_Act_queue_I_ : (.fieldLink RX3 268 "ActHouse$Act" "queue" "[I" : Cond) ∈ wsX3_finishAct := by decide +kernel
set_option maxRecDepth 100000 in
theorem kw_X3_finishAct__fieldLink_RX3_123_ActHouse_Act_kind_I_ : (.fieldLink RX3 123 "ActHouse$Act" "kind" "I" : Cond) ∈ wsX3_finishAct := by decide +kernel
set_option maxRecDepth 100000 in
theorem kw_X3_finishAct__fieldLink_RX3_126_ActHouse_Act_rank_I_ : (.fieldLink RX3 126 "ActHouse$Act" "rank" "I" : Cond) ∈ wsX3_finishAct := by decide +kernel
set_option maxRecDepth 100000 in
theorem kw_X3_finishAct__fieldLink_RX3_34_ActHouse_doneRow_I_ : (.fieldLink RX3 34 "ActHouse" "doneRow" "[I" : Cond) ∈ wsX3_finishAct := by decide +kernel
def f_X3_finishAct_74  : Nat → Int32 → Nat → Int32 → CS → Option (Int32 × CS)
  | 0, _, _, _, _ => none
  | k + 1, v1, y2, v3, C => (if (gP C y2 11) ≤ v3 then some ((0 : Int32), C) else (if 0 ≤ v3.toInt ∧ v3.toInt < 12 then (k_bind (f_X3_admit ((gQ C y2 9) v3.toNatClampNeg) (gP C y2 1) (gP C y2 2) v1 C) fun r10 C10 => f_X3_finishAct_74  k v1 y2 (v3 + 1) C10) else none))
def f_X3_finishAct_67  (v1 : Int32) (y2 : Nat)  (C : CS) : Option (Int32 × CS) := (k_bind (f_X3_tellValues y2 C) fun r7 C7 => f_X3_finishAct_74  200 v1 y2 (0 : Int32) C7)
def f_X3_finishAct (x1 : Int32) (C0 : CS) : Option (Int32 × CS) := (if (0 ≤ x1.toInt ∧ x1.toInt < 80) ∧ x1.toNatClampNeg < gN C0 then (k_let (cP C0 x1.toNatClampNeg 12 (2 : Int32)) fun C2 => (k_let (cP C2 x1.toNatClampNeg 17 (C2.1 15)) fun C3 => (k_bind (f_X1_write (2 : Int32) x1 ((-1) : Int32) (C3.1 15) C3) fun r4 C4 => (k_let (cP C4 x1.toNatClampNeg 18 r4) fun C5 => (if 80 ≤ (C5.1 13) then f_X3_finishAct_67  x1 x1.toNatClampNeg C5 else (if 0 ≤ (C5.1 13).toInt ∧ (C5.1 13).toInt < 80 then (k_let (cAF C5 7 (upd (C5.2.1 7) ((C5.1 13).toNatClampNeg) x1)) fun C12 => (k_let (cN C12 13 ((C12.1 13) + 1)) fun C13 => f_X3_finishAct_67  x1 x1.toNatClampNeg C13)) else none)))))) else none)
set_option maxHeartbeats 4000000 in
set_option maxRecDepth 100000 in
theorem c_X3_finishAct {l : Launch} {D : va_G} {hp : Heap} {cI cJ cO : ClassId} {h : Nat} {xa : Nat → Nat} {ea0 : Nat} {pa0 : Nat → Nat → Nat} {C0 C' : CS} {x1 r' : Int32} (hg : gN C0 ≤ 80 ∧ gE C0 ≤ 1048576) (hf : f_X3_finishAct x1 C0 = some (r', C')) : Met l yX3_finishAct wsX3_finishAct ({ frames := 3, cells := 7 * (80 - gN C0) + (1048576 - gE C0) / 256, slots := 108 * (80 - gN C0) + 2 * (1048576 - gE C0), locals := 86 }) (va_Pc [.ref h, .int x1] (k_PreH D [(cI, .int), (cO, .object RX0), (cJ, .long)] (cW cI cJ cO h xa ea0 pa0 C0) hp)) (va_Qv (fun (u : va_W × List (ClassId × FieldType)) => ∃ (ea' : Nat) (pa' : Nat → Nat → Nat), u = (cW cI cJ cO h xa ea' pa' C', [(cI, .int), (cO, .object RX0), (cJ, .long)]) ∧ (gN C0 ≤ gN C' ∧ gN C' ≤ 80 ∧ gE C0 ≤ gE C' ∧ gE C' ≤ 1048576) ∧ ∀ n, n < gN C0 → pa' n = pa0 n) (k_BM D (va_A (cW cI cJ cO h xa ea0 pa0 C0) hp.size) hp (7 * (gN C' - gN C0) + (gE C' - gE C0) / 256) (108 * (gN C' - gN C0) + 2 * (gE C' - gE C0))) (va_A (cW cI cJ cO h xa ea0 pa0 C0) hp.size)) (7 * (80 - gN C0) + (1048576 - gE C0) / 256) (108 * (80 - gN C0) + 2 * (1048576 - gE C0)) (va_A (cW cI cJ cO h xa ea0 pa0 C0) hp.size) := by
  refine Met.ofW (cc := cX3_finishAct) (maxL := 4) (ret := none) (by decide) rfl ?_
  intro p e s m args below meth c s₁ B hml hv
  obtain ⟨rfl, hsz, hP, hK, hD0⟩ := hv
  have hx := B.exec
  have hb := B.bytes
  have hr := B.returns
  have hts := atoms_spec (ws := wsX3_finishAct) B.pre
  have hown : s.vm.findClass RX3 = some m.cls := findClass_of_methodNamed B.named
  have hlocks := B.notSynchronized
  have hsz : s.heap = hp := hsz
  subst hsz
  have hD := hD0.self (sz := s.heap.size)
  generalize hAe : va_A (cW cI cJ cO h xa ea0 pa0 C0) s.heap.size = A at hD ⊢
  have hA : ∀ q : Nat, s.heap.size ≤ q → A q := fun q h => by rw [← hAe]; exact Or.inr h
  have hS : va_S A s.heap s.heap [] := va_S.rf
  have hl := lv_entry ([.ref h, .int x1]) (n := 4) (Nat.le_of_ble_eq_true rfl)
  rw [lg_entry_eq]
  generalize (lg_sl ([.ref h, .int x1]) ++ List.replicate (4 - (lg_sl ([.ref h, .int x1])).length) Slot.unset).toArray = ls at hl ⊢
  have hl : lv_has ls 4 [(0, .ref h), (1, .int x1)] := hl
  refine k_Q (fun Q hQ => ?_)
  have B74 : ∀  (k : Nat), ∀ (v1 : Int32) (y2 : Nat) (v3 : Int32)  (C : CS) (ea : Nat) (pa : Nat → Nat → Nat) (H : Heap) (locs : List Loc) (ls : Array Slot), f_X3_finishAct_74  k v1 y2 v3 C = some (r', C') → (gN C0 ≤ gN C ∧ gN C ≤ 80 ∧ gE C0 ≤ gE C ∧ gE C ≤ 1048576) → (∀ n, n < gN C0 → pa n = pa0 n) → y2 < gN C → va_P D vwCl (cW cI cJ cO h xa ea pa C) H → va_D A (cW cI cJ cO h xa ea pa C) → va_S A s.heap H locs → lv_has ls 4 [(0, .ref h), (1, .int v1), (2, .ref (pa y2 0)), (3, .int v3)] → W p l e (headSpec wsX3_finishAct ({ frames := 3, cells := 7 * (80 - gN C0) + (1048576 - gE C0) / 256, slots := 108 * (80 - gN C0) + 2 * (1048576 - gE C0), locals := 86 })).room s m ([.ref h, .int x1] : List Value).toArray below meth c H locs ((7 * (gN C - gN C0) + (gE C - gE C0) / 256)) ((108 * (gN C - gN C0) + 2 * (gE C - gE C0))) Q (F0 m 74 ls []) := by
    intro  k
    induction k with
    | zero =>
      intro v1 y2 v3  C ea pa H locs ls hq hg hpa hn_y2 hP hD hS hl
      exact absurd hq (by rw [f_X3_finishAct_74]; exact k_non)
    | succ k ih =>
      intro v1 y2 v3  C ea pa H locs ls hq hg hpa hn_y2 hP hD hS hl
      rw [f_X3_finishAct_74] at hq
      refine lv_iload_n hx hb dX3_finishAct_74 rfl (lv_at hl 3 rfl) ?_
      refine lv_aload_n hx hb dX3_finishAct_75 rfl (lv_at hl 2 rfl) ?_
      refine va_get (D := D) (ci := 0) (v := .int (gP C y2 11)) (C := RX0) (T := TX0) (N := 20) hx hb hts kin_X3_finishAct_X0 hown hK hP (16 + (7 * y2 + 0)) (cW_get (show y2 < gN C from by omega) rfl) rfl 11 (by decide) (hts _ kw_X3_finishAct__fieldLink_RX3_265_ActHouse_Act_queueLength_I_) (fun _ h9 => h9) rfl dX3_finishAct_76 ?_
      refine lv_icmp_ge (tgt := 108) hx hb dX3_finishAct_79 (by decide) (fun c8 => ?_) (fun c8 => ?_)
      · skip
        rw [if_pos c8] at hq
        obtain ⟨e2, e3⟩ := k_so hq
        subst hQ
        have hP : va_P D vwCl (cW cI cJ cO h xa ea pa C) _ := hP
        have hD : va_D A (cW cI cJ cO h xa ea pa C) := hD
        have hgE := congrArg (fun X : CS => gN X) e3
        have hgE : gN C = gN C' := hgE
        have hhE := congrArg (fun X : CS => gE X) e3
        have hhE : gE C = gE C' := hhE
        refine k_facts (fun hm1 hm2 hm3 => ?_)
        refine W.widen (k := 7 * (80 - gN C0) + (1048576 - gE C0) / 256) (n := 108 * (80 - gN C0) + 2 * (1048576 - gE C0)) (by omega) (by omega) ?_
        exact W.vret hx hb hr (fun t ht hW => ⟨⟨(cW cI cJ cO h xa ea pa C, [(cI, .int), (cO, .object RX0), (cJ, .long)]), rfl, ⟨ea, pa, (congrArg (fun X : CS => ((cW cI cJ cO h xa ea pa X, [(cI, .int), (cO, .object RX0), (cJ, .long)]) : va_W × List (ClassId × FieldType))) e3), (by show gN C0 ≤ gN C' ∧ gN C' ≤ 80 ∧ gE C0 ≤ gE C' ∧ gE C' ≤ 1048576; omega), hpa⟩, ⟨⟨by rw [ht]; exact hP, va_K.moved hW.alike hK, hD⟩, by rw [ht]; exact hm3, by rw [ht]; omega, by rw [ht]; omega⟩⟩, hS.F ht⟩) hS.2.2 dX3_finishAct_108
      · skip
        rw [if_neg c8] at hq
        refine lv_aload_n hx hb dX3_finishAct_82 rfl (lv_at hl 0 rfl) ?_
        refine lv_aload_n hx hb dX3_finishAct_83 rfl (lv_at hl 2 rfl) ?_
        refine va_get (D := D) (ci := 0) (v := .ref (pa y2 9)) (C := RX0) (T := TX0) (N := 20) hx hb hts kin_X3_finishAct_X0 hown hK hP (16 + (7 * y2 + 0)) (cW_get (show y2 < gN C from by omega) rfl) rfl 9 (by decide) (hts _ kw_X3_finishAct__fieldLink_RX3_268_ActHouse_Act_queue_I_) (fun _ h9 => h9) rfl dX3_finishAct_84 ?_
        refine lv_iload_n hx hb dX3_finishAct_87 rfl (lv_at hl 3 rfl) ?_
        obtain ⟨b9, hq⟩ := k_if hq
        refine va_iald hx hb hK hP (16 + (7 * y2 + 6)) 0 (f := (gQ C y2 9)) (cW_get (show y2 < gN C from by omega) rfl) rfl (k_in b9.1 b9.2) dX3_finishAct_88 ?_
        refine lv_aload_n hx hb dX3_finishAct_89 rfl (lv_at hl 2 rfl) ?_
        refine va_get (D := D) (ci := 0) (v := .int (gP C y2 1)) (C := RX0) (T := TX0) (N := 20) hx hb hts kin_X3_finishAct_X0 hown hK hP (16 + (7 * y2 + 0)) (cW_get (show y2 < gN C from by omega) rfl) rfl 1 (by decide) (hts _ kw_X3_finishAct__fieldLink_RX3_123_ActHouse_Act_kind_I_) (fun _ h9 => h9) rfl dX3_finishAct_90 ?_
        refine lv_aload_n hx hb dX3_finishAct_93 rfl (lv_at hl 2 rfl) ?_
        refine va_get (D := D) (ci := 0) (v := .int (gP C y2 2)) (C := RX0) (T := TX0) (N := 20) hx hb hts kin_X3_finishAct_X0 hown hK hP (16 + (7 * y2 + 0)) (cW_get (show y2 < gN C from by omega) rfl) rfl 2 (by decide) (hts _ kw_X3_finishAct__fieldLink_RX3_126_ActHouse_Act_rank_I_) (fun _ h9 => h9) rfl dX3_finishAct_94 ?_
        refine lv_iload_n hx hb dX3_finishAct_97 rfl (lv_at hl 1 rfl) ?_
        obtain ⟨q10, C10, h10, hq⟩ := k_bd hq
        have hFc := k_free hD hS hA
        refine k_facts (fun hn1 hn2 hn3 => ?_)
        refine va_calli (va_runV (As := [.int ((gQ C y2 9) v3.toNatClampNeg), .int (gP C y2 1), .int (gP C y2 2), .int v1]) (rest := []) ⟨hx, hb, hml, hown, hts⟩ (c_X3_admit (l := l) (D := D) (cI := cI) (cJ := cJ) (cO := cO) (h := h) (xa := xa) (ea0 := ea) (pa0 := pa)  (hg := by show gN C ≤ 80 ∧ gE C ≤ 1048576; omega) (hf := h10)) (cwV 4 hts gX3_finishAct_X3_admit rfl rfl rfl (by decide +kernel) ⟨Nat.le_of_ble_eq_true rfl, Nat.le_of_ble_eq_true rfl⟩) ⟨k_blindH, va_recv hK hP (ci := 3) (q0 := 0) rfl rfl, fun U hU hW => ⟨rfl, k_preH hU hW hP hK hD⟩⟩ rfl rfl hl.1 rfl (lv_room (Nat.le_of_ble_eq_true rfl)) dX3_finishAct_98 ⟨by show (7 * (gN C - gN C0) + (gE C - gE C0) / 256) + (7 * (80 - gN C) + (1048576 - gE C) / 256) ≤ 7 * (80 - gN C0) + (1048576 - gE C0) / 256; omega, by show (108 * (gN C - gN C0) + 2 * (gE C - gE C0)) + (108 * (80 - gN C) + 2 * (1048576 - gE C)) ≤ 108 * (80 - gN C0) + 2 * (1048576 - gE C0); omega⟩) hS (fun q _ h => hFc q h) hFc (fun r10 u t H1 locs ht hvm hw hB hz1 hk1 hS => ?_)
        obtain ⟨ea10, pa10, rfl, rfl, hg10, hp10⟩ := hw
        have hg10 : gN C ≤ gN C10 ∧ gN C10 ≤ 80 ∧ gE C ≤ gE C10 ∧ gE C10 ≤ 1048576 := hg10
        have hpa : ∀ n, n < gN C0 → pa10 n = pa0 n := fun n hn => (hp10 n (by show n < gN C; omega)).trans (hpa n hn)
        obtain ⟨hB, hz2, hz3, hz4⟩ := hB
        rw [ht] at hz2 hz3 hz4
        refine k_tight (k := (7 * (gN C10 - gN C0) + (gE C10 - gE C0) / 256)) (n := (108 * (gN C10 - gN C0) + 2 * (gE C10 - gE C0))) (by omega) (by rw [k_nS_tr hn3.1 hz2]; omega) ?_
        have hl : lv_has ls 4 [(0, .ref h), (1, .int v1), (2, .ref (pa10 y2 0)), (3, .int v3)] := by rw [hp10 y2 (by show y2 < gN C; omega)]; exact hl
        obtain ⟨hP1, hK1, hD1⟩ := hB
        rw [ht] at hP1
        have hP := hP1
        have hD := k_weak hD1 hFc
        generalize H1 = H at hP hS ⊢
        have hP : va_P D vwCl (cW cI cJ cO h xa ea10 pa10 C10) _ := hP
        have hD : va_D A (cW cI cJ cO h xa ea10 pa10 C10) := hD
        refine lv_pop hx hb dX3_finishAct_101 rfl ?_
        refine lv_iinc (v := v3 + 1) (lv' := [(3, .int (v3 + 1)), (0, .ref h), (1, .int v1), (2, .ref (pa10 y2 0))]) hx hb dX3_finishAct_102 hl (k := 3) rfl (by rfl) (by decide) rfl (fun ls hl => ?_)
        refine lv_goto (tgt := 74) hx hb dX3_finishAct_105 (by decide) ?_
        exact ih v1 y2 (v3 + 1) C10 ea10 pa10 _ _ _ hq (by show (gN C0 ≤ gN C10 ∧ gN C10 ≤ 80 ∧ gE C0 ≤ gE C10 ∧ gE C10 ≤ 1048576); omega) hpa (by show y2 < gN C10; omega) hP hD hS (lv_sub hl [1, 2, 3, 0] rfl)
  have B67 : ∀ (v1 : Int32) (y2 : Nat)  (C : CS) (ea : Nat) (pa : Nat → Nat → Nat) (H : Heap) (locs : List Loc) (ls : Array Slot), f_X3_finishAct_67 v1 y2 C = some (r', C') → (gN C0 ≤ gN C ∧ gN C ≤ 80 ∧ gE C0 ≤ gE C ∧ gE C ≤ 1048576) → (∀ n, n < gN C0 → pa n = pa0 n) → y2 < gN C → va_P D vwCl (cW cI cJ cO h xa ea pa C) H → va_D A (cW cI cJ cO h xa ea pa C) → va_S A s.heap H locs → lv_has ls 4 [(0, .ref h), (1, .int v1), (2, .ref (pa y2 0))] → W p l e (headSpec wsX3_finishAct ({ frames := 3, cells := 7 * (80 - gN C0) + (1048576 - gE C0) / 256, slots := 108 * (80 - gN C0) + 2 * (1048576 - gE C0), locals := 86 })).room s m ([.ref h, .int x1] : List Value).toArray below meth c H locs ((7 * (gN C - gN C0) + (gE C - gE C0) / 256)) ((108 * (gN C - gN C0) + 2 * (gE C - gE C0))) Q (F0 m 67 ls []) := by
    intro v1 y2  C ea pa H locs ls hq hg hpa hn_y2 hP hD hS hl
    rw [f_X3_finishAct_67] at hq
    refine lv_aload_n hx hb dX3_finishAct_67 rfl (lv_at hl 0 rfl) ?_
    refine lv_aload_n hx hb dX3_finishAct_68 rfl (lv_at hl 2 rfl) ?_
    obtain ⟨r7, C7, h7, hq⟩ := k_bd hq
    have hFc := k_free hD hS hA
    refine va_callv (va_runV (As := [.ref (pa y2 0)]) (rest := []) ⟨hx, hb, hml, hown, hts⟩ (c_X3_tellValues (l := l) (D := D) (cI := cI) (cJ := cJ) (cO := cO) (h := h) (xa := xa) (ea0 := ea) (pa0 := pa)  (hn1 := by show y2 < gN C; omega) (hf := h7)) (cwV 1 hts gX3_finishAct_X3_tellValues rfl rfl rfl (by decide +kernel) ⟨Nat.le_of_ble_eq_true rfl, Nat.le_of_ble_eq_true rfl⟩) ⟨k_blind, va_recv hK hP (ci := 3) (q0 := 0) rfl rfl, fun U hU hW => ⟨rfl, k_pre hU hW hP hK hD⟩⟩ rfl rfl hl.1 rfl (lv_room (Nat.le_of_ble_eq_true rfl)) dX3_finishAct_69 ⟨by show (7 * (gN C - gN C0) + (gE C - gE C0) / 256) + 0 ≤ 7 * (80 - gN C0) + (1048576 - gE C0) / 256; omega, by show (108 * (gN C - gN C0) + 2 * (gE C - gE C0)) + 0 ≤ 108 * (80 - gN C0) + 2 * (1048576 - gE C0); omega⟩) hS (fun q _ h => hFc q h) hFc (fun u t H1 locs ht hvm hw hB hz1 hk1 hS => ?_)
    obtain ⟨rfl, hg7, hh7⟩ := hw
    have hg7 : gN C7 = gN C := hg7
    have hh7 : gE C7 = gE C := hh7
    refine W.widen (k := (7 * (gN C7 - gN C0) + (gE C7 - gE C0) / 256)) (n := (108 * (gN C7 - gN C0) + 2 * (gE C7 - gE C0))) (by omega) (by omega) ?_
    obtain ⟨hP1, hK1, hD1⟩ := hB
    rw [ht] at hP1
    have hP := hP1
    have hD := k_weak hD1 hFc
    generalize H1 = H at hP hS ⊢
    have hP : va_P D vwCl (cW cI cJ cO h xa ea pa C7) _ := hP
    have hD : va_D A (cW cI cJ cO h xa ea pa C7) := hD
    refine lv_iconst (v := 0) hx hb dX3_finishAct_72 (by decide) ?_
    refine lv_istore_n (lv' := [(3, .int 0), (0, .ref h), (1, .int v1), (2, .ref (pa y2 0))]) hx hb dX3_finishAct_73 rfl hl (by decide) rfl (fun ls hl => ?_)
    exact B74  200 v1 y2 (0 : Int32) C7 ea pa _ _ _ hq (by show (gN C0 ≤ gN C7 ∧ gN C7 ≤ 80 ∧ gE C0 ≤ gE C7 ∧ gE C7 ≤ 1048576); omega) hpa (by show y2 < gN C7; omega) hP hD hS (lv_sub hl [1, 2, 3, 0] rfl)
  refine W.widen (k := (7 * (gN C0 - gN C0) + (gE C0 - gE C0) / 256)) (n := (108 * (gN C0 - gN C0) + 2 * (gE C0 - gE C0))) (by omega) (by omega) ?_
  have hpa : ∀ n, n < gN C0 → pa0 n = pa0 n := fun _ _ => rfl
  have hq := hf
  rw [f_X3_finishAct] at hq
  refine lv_aload_n hx hb dX3_finishAct_0 rfl (lv_at hl 0 rfl) ?_
  refine va_get (D := D) (ci := 3) (v := .ref (xa 5)) (C := RX3) (T := TX3) (N := 18) hx hb hts kin_X3_finishAct_X3 hown hK hP 0 rfl rfl 5 (by decide) (hts _ kw_X3_finishAct__fieldLink_RX3_27_ActHouse_acts_LActHouse_Act_) (fun _ h9 => h9) rfl dX3_finishAct_1 ?_
  refine lv_iload_n hx hb dX3_finishAct_4 rfl (lv_at hl 1 rfl) ?_
  obtain ⟨b1, hq⟩ := k_if hq
  refine va_aldq hx hb hK hP 6 1 (f := cActs pa0 (gN C0)) rfl rfl (k_in b1.1.1 b1.1.2) dX3_finishAct_5 ?_
  refine W.eq (g2 := F0 m 6 ls [.ref (pa0 x1.toNatClampNeg 0)]) (by rw [cActs_lt b1.2]; rfl) ?_
  refine lv_astore_n (lv' := [(2, .ref (pa0 x1.toNatClampNeg 0)), (0, .ref h), (1, .int x1)]) hx hb dX3_finishAct_6 rfl hl (by decide) rfl (fun ls hl => ?_)
  refine lv_aload_n hx hb dX3_finishAct_7 rfl (lv_at hl 0 rfl) ?_
  refine lv_iconst (v := 2) hx hb dX3_finishAct_8 (by decide) ?_
  refine va_put (D := D) (ci := 0) (v := .int 2) (ty := .int) (C := RX0) (T := TX0) (N := 20) hx hb hts kin_X3_finishAct_X0 tyX0 tyX0_ok nmX0 hown hK hP hD hS (16 + (7 * x1.toNatClampNeg + 0)) (fs := aF (pa0 x1.toNatClampNeg) (gP C0 x1.toNatClampNeg)) (cW_get (show x1.toNatClampNeg < gN C0 from by omega) rfl) rfl 12 (by decide) (hts _ kw_X3_finishAct__fieldLink_RX3_117_ActHouse_Act_state_I_) (fun _ h9 => h9) rfl (by decide +kernel) rfl rfl (Nat.le_of_ble_eq_true rfl) dX3_finishAct_9 (fun H locs hP hD hS => ?_)
  obtain ⟨C2, eC2, hg2, hh2, hq⟩ := k_lc (C := C0) hq rfl rfl
  rw [cP_eq12 (show x1.toNatClampNeg < gN C0 from by omega), ← eC2] at hP hD
  have hP : va_P D vwCl (cW cI cJ cO h xa ea0 pa0 C2) _ := hP
  have hD : va_D A (cW cI cJ cO h xa ea0 pa0 C2) := hD
  refine W.widen (k := (7 * (gN C2 - gN C0) + (gE C2 - gE C0) / 256)) (n := (108 * (gN C2 - gN C0) + 2 * (gE C2 - gE C0))) (by omega) (by omega) ?_
  refine lv_aload_n hx hb dX3_finishAct_12 rfl (lv_at hl 0 rfl) ?_
  refine lv_aload_n hx hb dX3_finishAct_13 rfl (lv_at hl 1 rfl) ?_
  refine va_get (D := D) (ci := 3) (v := .int (C2.1 15)) (C := RX3) (T := TX3) (N := 18) hx hb hts kin_X3_finishAct_X3 hown hK hP 0 rfl rfl 15 (by decide) (hts _ kw_X3_finishAct__fieldLink_RX3_79_ActHouse_now_I_) (fun _ h9 => h9) rfl dX3_finishAct_14 ?_
  refine va_put (D := D) (ci := 0) (v := .int (C2.1 15)) (ty := .int) (C := RX0) (T := TX0) (N := 20) hx hb hts kin_X3_finishAct_X0 tyX0 tyX0_ok nmX0 hown hK hP hD hS (16 + (7 * x1.toNatClampNeg + 0)) (fs := aF (pa0 x1.toNatClampNeg) (gP C2 x1.toNatClampNeg)) (cW_get (show x1.toNatClampNeg < gN C2 from by omega) rfl) rfl 17 (by decide) (hts _ kw_X3_finishAct__fieldLink_RX3_135_ActHouse_Act_doneTick_I_) (fun _ h9 => h9) rfl (by decide +kernel) rfl rfl (Nat.le_of_ble_eq_true rfl) dX3_finishAct_17 (fun H locs hP hD hS => ?_)
  obtain ⟨C3, eC3, hg3, hh3, hq⟩ := k_lc (C := C2) hq rfl rfl
  rw [cP_eq17 (show x1.toNatClampNeg < gN C2 from by omega), ← eC3] at hP hD
  have hP : va_P D vwCl (cW cI cJ cO h xa ea0 pa0 C3) _ := hP
  have hD : va_D A (cW cI cJ cO h xa ea0 pa0 C3) := hD
  refine W.widen (k := (7 * (gN C3 - gN C0) + (gE C3 - gE C0) / 256)) (n := (108 * (gN C3 - gN C0) + 2 * (gE C3 - gE C0))) (by omega) (by omega) ?_
  refine lv_aload_n hx hb dX3_finishAct_20 rfl (lv_at hl 0 rfl) ?_
  refine lv_aload_n hx hb dX3_finishAct_21 rfl (lv_at hl 1 rfl) ?_
  refine va_get (D := D) (ci := 3) (v := .ref (xa 10)) (C := RX3) (T := TX3) (N := 18) hx hb hts kin_X3_finishAct_X3 hown hK hP 0 rfl rfl 10 (by decide) (hts _ kw_X3_finishAct__fieldLink_RX3_46_ActHouse_book_LActHouse_LogBook_) (fun _ h9 => h9) rfl dX3_finishAct_22 ?_
  refine lv_iconst (v := 2) hx hb dX3_finishAct_25 (by decide) ?_
  refine lv_iload_n hx hb dX3_finishAct_26 rfl (lv_at hl 2 rfl) ?_
  refine lv_iconst (v := (-1)) hx hb dX3_finishAct_27 (by decide) ?_
  refine lv_aload_n hx hb dX3_finishAct_28 rfl (lv_at hl 1 rfl) ?_
  refine va_get (D := D) (ci := 3) (v := .int (C3.1 15)) (C := RX3) (T := TX3) (N := 18) hx hb hts kin_X3_finishAct_X3 hown hK hP 0 rfl rfl 15 (by decide) (hts _ kw_X3_finishAct__fieldLink_RX3_79_ActHouse_now_I_) (fun _ h9 => h9) rfl dX3_finishAct_29 ?_
  obtain ⟨q4, C4, h4, hq⟩ := k_bd hq
  have hFc := k_free hD hS hA
  refine k_facts (fun hn1 hn2 hn3 => ?_)
  refine va_calli (va_runV (As := [.int 2, .int x1, .int (-1), .int (C3.1 15)]) (rest := [.ref (pa0 x1.toNatClampNeg 0)]) ⟨hx, hb, hml, hown, hts⟩ (c_X1_write (l := l) (D := D) (cI := cI) (cJ := cJ) (cO := cO) (h := h) (xa := xa) (ea0 := ea0) (pa0 := pa0)  (hg := by show gN C3 ≤ 80 ∧ gE C3 ≤ 1048576; omega) (hf := h4)) (cwV 4 hts gX3_finishAct_X1_write rfl rfl rfl (by decide +kernel) ⟨Nat.le_of_ble_eq_true rfl, Nat.le_of_ble_eq_true rfl⟩) ⟨k_blindH, va_recv hK hP (ci := 1) (q0 := 11) rfl rfl, fun U hU hW => ⟨rfl, k_preH hU hW hP hK hD⟩⟩ rfl rfl hl.1 rfl (lv_room (Nat.le_of_ble_eq_true rfl)) dX3_finishAct_32 ⟨by show (7 * (gN C3 - gN C0) + (gE C3 - gE C0) / 256) + (7 * (80 - gN C3) + (1048576 - gE C3) / 256) ≤ 7 * (80 - gN C0) + (1048576 - gE C0) / 256; omega, by show (108 * (gN C3 - gN C0) + 2 * (gE C3 - gE C0)) + (108 * (80 - gN C3) + 2 * (1048576 - gE C3)) ≤ 108 * (80 - gN C0) + 2 * (1048576 - gE C0); omega⟩) hS (fun q _ h => hFc q h) hFc (fun r4 u t H1 locs ht hvm hw hB hz1 hk1 hS => ?_)
  obtain ⟨ea4, pa4, rfl, rfl, hg4, hp4⟩ := hw
  have hg4 : gN C3 ≤ gN C4 ∧ gN C4 ≤ 80 ∧ gE C3 ≤ gE C4 ∧ gE C4 ≤ 1048576 := hg4
  have hpa : ∀ n, n < gN C0 → pa4 n = pa0 n := fun n hn => (hp4 n (by show n < gN C3; omega)).trans (hpa n hn)
  obtain ⟨hB, hz2, hz3, hz4⟩ := hB
  rw [ht] at hz2 hz3 hz4
  refine k_tight (k := (7 * (gN C4 - gN C0) + (gE C4 - gE C0) / 256)) (n := (108 * (gN C4 - gN C0) + 2 * (gE C4 - gE C0))) (by omega) (by rw [k_nS_tr hn3.1 hz2]; omega) ?_
  have hl : lv_has ls 4 [(2, .ref (pa4 x1.toNatClampNeg 0)), (0, .ref h), (1, .int x1)] := by rw [hp4 x1.toNatClampNeg (by show x1.toNatClampNeg < gN C3; omega)]; exact hl
  refine W.eq (g2 := F0 m 35 ls [.int r4, .ref (pa4 x1.toNatClampNeg 0)]) (by rw [hp4 x1.toNatClampNeg (by show x1.toNatClampNeg < gN C3; omega)]) ?_
  obtain ⟨hP1, hK1, hD1⟩ := hB
  rw [ht] at hP1
  have hP := hP1
  have hD := k_weak hD1 hFc
  generalize H1 = H at hP hS ⊢
  have hP : va_P D vwCl (cW cI cJ cO h xa ea4 pa4 C4) _ := hP
  have hD : va_D A (cW cI cJ cO h xa ea4 pa4 C4) := hD
  refine va_put (D := D) (ci := 0) (v := .int r4) (ty := .int) (C := RX0) (T := TX0) (N := 20) hx hb hts kin_X3_finishAct_X0 tyX0 tyX0_ok nmX0 hown hK hP hD hS (16 + (7 * x1.toNatClampNeg + 0)) (fs := aF (pa4 x1.toNatClampNeg) (gP C4 x1.toNatClampNeg)) (cW_get (show x1.toNatClampNeg < gN C4 from by omega) rfl) rfl 18 (by decide) (hts _ kw_X3_finishAct__fieldLink_RX3_258_ActHouse_Act_entry_I_) (fun _ h9 => h9) rfl (by decide +kernel) rfl rfl (Nat.le_of_ble_eq_true rfl) dX3_finishAct_35 (fun H locs hP hD hS => ?_)
  obtain ⟨C5, eC5, hg5, hh5, hq⟩ := k_lc (C := C4) hq rfl rfl
  rw [cP_eq18 (show x1.toNatClampNeg < gN C4 from by omega), ← eC5] at hP hD
  have hP : va_P D vwCl (cW cI cJ cO h xa ea4 pa4 C5) _ := hP
  have hD : va_D A (cW cI cJ cO h xa ea4 pa4 C5) := hD
  refine W.widen (k := (7 * (gN C5 - gN C0) + (gE C5 - gE C0) / 256)) (n := (108 * (gN C5 - gN C0) + 2 * (gE C5 - gE C0))) (by omega) (by omega) ?_
  refine lv_aload_n hx hb dX3_finishAct_38 rfl (lv_at hl 1 rfl) ?_
  refine va_get (D := D) (ci := 3) (v := .int (C5.1 13)) (C := RX3) (T := TX3) (N := 18) hx hb hts kin_X3_finishAct_X3 hown hK hP 0 rfl rfl 13 (by decide) (hts _ kw_X3_finishAct__fieldLink_RX3_154_ActHouse_doneCount_I_) (fun _ h9 => h9) rfl dX3_finishAct_39 ?_
  refine lv_bipush (v := 80) hx hb dX3_finishAct_42 (by decide) ?_
  refine lv_icmp_ge (tgt := 67) hx hb dX3_finishAct_44 (by decide) (fun c6 => ?_) (fun c6 => ?_)
  · skip
    rw [if_pos c6] at hq
    exact B67  x1 x1.toNatClampNeg C5 ea4 pa4 _ _ _ hq (by show (gN C0 ≤ gN C5 ∧ gN C5 ≤ 80 ∧ gE C0 ≤ gE C5 ∧ gE C5 ≤ 1048576); omega) hpa (by show x1.toNatClampNeg < gN C5; omega) hP hD hS (lv_sub hl [1, 2, 0] rfl)
  · skip
    rw [if_neg c6] at hq
    refine lv_aload_n hx hb dX3_finishAct_47 rfl (lv_at hl 1 rfl) ?_
    refine va_get (D := D) (ci := 3) (v := .ref (xa 7)) (C := RX3) (T := TX3) (N := 18) hx hb hts kin_X3_finishAct_X3 hown hK hP 0 rfl rfl 7 (by decide) (hts _ kw_X3_finishAct__fieldLink_RX3_34_ActHouse_doneRow_I_) (fun _ h9 => h9) rfl dX3_finishAct_48 ?_
    refine lv_aload_n hx hb dX3_finishAct_51 rfl (lv_at hl 1 rfl) ?_
    refine va_get (D := D) (ci := 3) (v := .int (C5.1 13)) (C := RX3) (T := TX3) (N := 18) hx hb hts kin_X3_finishAct_X3 hown hK hP 0 rfl rfl 13 (by decide) (hts _ kw_X3_finishAct__fieldLink_RX3_154_ActHouse_doneCount_I_) (fun _ h9 => h9) rfl dX3_finishAct_52 ?_
    refine lv_iload_n hx hb dX3_finishAct_55 rfl (lv_at hl 2 rfl) ?_
    obtain ⟨b11, hq⟩ := k_if hq
    refine va_iast hx hb hK hP hD hS 8 0 (f := (C5.2.1 7)) rfl rfl (x := x1) (k_in b11.1 b11.2) dX3_finishAct_56 (fun H locs hP hD hS => ?_)
    obtain ⟨C12, eC12, hg12, hh12, hq⟩ := k_lc (C := C5) hq rfl rfl
    rw [cW_F7, ← eC12] at hP hD
    have hP : va_P D vwCl (cW cI cJ cO h xa ea4 pa4 C12) _ := hP
    have hD : va_D A (cW cI cJ cO h xa ea4 pa4 C12) := hD
    refine W.widen (k := (7 * (gN C12 - gN C0) + (gE C12 - gE C0) / 256)) (n := (108 * (gN C12 - gN C0) + 2 * (gE C12 - gE C0))) (by omega) (by omega) ?_
    refine lv_aload_n hx hb dX3_finishAct_57 rfl (lv_at hl 1 rfl) ?_
    refine lv_dup hx hb dX3_finishAct_58 rfl ?_
    refine va_get (D := D) (ci := 3) (v := .int (C12.1 13)) (C := RX3) (T := TX3) (N := 18) hx hb hts kin_X3_finishAct_X3 hown hK hP 0 rfl rfl 13 (by decide) (hts _ kw_X3_finishAct__fieldLink_RX3_154_ActHouse_doneCount_I_) (fun _ h9 => h9) rfl dX3_finishAct_59 ?_
    refine lv_iconst (v := 1) hx hb dX3_finishAct_62 (by decide) ?_
    refine lv_iadd hx hb dX3_finishAct_63 ?_
    refine va_put (D := D) (ci := 3) (v := .int ((C12.1 13) + 1)) (ty := .int) (C := RX3) (T := TX3) (N := 18) hx hb hts kin_X3_finishAct_X3 tyX3 tyX3_ok nmX3 hown hK hP hD hS 0 (fs := hF xa C12) rfl rfl 13 (by decide) (hts _ kw_X3_finishAct__fieldLink_RX3_154_ActHouse_doneCount_I_) (fun _ h9 => h9) rfl (by decide +kernel) rfl rfl (Nat.le_of_ble_eq_true rfl) dX3_finishAct_64 (fun H locs hP hD hS => ?_)
    obtain ⟨C13, eC13, hg13, hh13, hq⟩ := k_lc (C := C12) hq rfl rfl
    rw [cW_I13, ← eC13] at hP hD
    have hP : va_P D vwCl (cW cI cJ cO h xa ea4 pa4 C13) _ := hP
    have hD : va_D A (cW cI cJ cO h xa ea4 pa4 C13) := hD
    refine W.widen (k := (7 * (gN C13 - gN C0) + (gE C13 - gE C0) / 256)) (n := (108 * (gN C13 - gN C0) + 2 * (gE C13 - gE C0))) (by omega) (by omega) ?_
    exact B67  x1 x1.toNatClampNeg C13 ea4 pa4 _ _ _ hq (by show (gN C0 ≤ gN C13 ∧ gN C13 ≤ 80 ∧ gE C0 ≤ gE C13 ∧ gE C13 ≤ 1048576); omega) hpa (by show x1.toNatClampNeg < gN C13; omega) hP hD hS (lv_sub hl [1, 2, 0] rfl)
set_option maxRecDepth 100000 in
theorem kw_X3_takeStep__fieldLink_RX3_27_ActHouse_acts_LActHouse_Act_ : (.fieldLink RX3 27 "ActHouse" "acts" "[LActHouse$Act;" : Cond) ∈ wsX3_takeStep := by decide +kernel
set_option maxRecDepth 100000 in
theorem kin_X3_takeStep_X3 : ∀ w ∈ u_ws RX3 TX3 18, w ∈ wsX3_takeStep := by decide +kernel
set_option maxRecDepth 100000 in
theorem kw_X3_takeStep__fieldLink_RX3_204_ActHouse_Act_steps_I_ : (.fieldLink RX3 204 "ActHouse$Act" "steps" "[I" : Cond) ∈ wsX3_takeStep := by decide +kernel
set_option maxRecDepth 100000 in
theorem kin_X3_takeStep_X0 : ∀ w ∈ u_ws RX0 TX0 20, w ∈ wsX3_takeStep := by decide +kernel
set_option maxRecDepth 100000 in
theorem kw_X3_takeStep__fieldLink_RX3_129_ActHouse_Act_at_I_ : (.fieldLink RX3 129 "ActHouse$Act" "at" "I" : Cond) ∈ wsX3_takeStep := by decide +kernel
set_option maxRecDepth 100000 in
theorem kw_X3_takeStep__fieldLink_RX3_79_ActHouse_now_I_ : (.fieldLink RX3 79 "ActHouse" "now" "I" : Cond) ∈ wsX3_takeStep := by decide +kernel
set_option maxRecDepth 100000 in
theorem kw_X3_takeStep__fieldLink_RX3_132_ActHouse_Act_heldTick_I_ : (.fieldLink RX3 132 "ActHouse$Act" "heldTick" "I" : Cond) ∈ wsX3_takeStep := by decide +kernel
def f_X3_takeStep_67  (v1 : Int32) (y2 : Nat)  (C : CS) : Option (Int32 × CS) := (k_bind (f_X0_hasStep y2 C) fun r4 C4 => (if r4 = 0 then (k_bind (f_X3_finishAct v1 C4) fun r6 C6 => some ((0 : Int32), C6)) else some ((0 : Int32), C4)))
def f_X3_takeStep (x1 : Int32) (C0 : CS) : Option (Int32 × CS) := (if (0 ≤ x1.toInt ∧ x1.toInt < 80) ∧ x1.toNatClampNeg < gN C0 then (k_bind (f_X0_hasStep x1.toNatClampNeg C0) fun r2 C2 => (if r2 = 0 then f_X3_takeStep_67  x1 x1.toNatClampNeg C2 else (if 0 ≤ (gP C2 x1.toNatClampNeg 14).toInt ∧ (gP C2 x1.toNatClampNeg 14).toInt < 12 then (k_bind (f_X3_canBe x1 ((gQ C2 x1.toNatClampNeg 4) (gP C2 x1.toNatClampNeg 14).toNatClampNeg) C2) fun r8 C8 => (if r8 = 0 then (k_let (cP C8 x1.toNatClampNeg 15 (C8.1 15)) fun C14 => some ((0 : Int32), C14)) else (k_let (cP C8 x1.toNatClampNeg 14 ((gP C8 x1.toNatClampNeg 14) + 1)) fun C10 => (k_bind (f_X3_perform x1 ((gQ C2 x1.toNatClampNeg 4) (gP C2 x1.toNatClampNeg 14).toNatClampNeg) C10) fun r11 C11 => (if r11 = 0 then (k_bind (f_X3_stopAct x1 C11) fun r13 C13 => some ((0 : Int32), C13)) else f_X3_takeStep_67  x1 x1.toNatClampNeg C11))))) else none))) else none)
set_option maxHeartbeats 4000000 in
set_option maxRecDepth 100000 in
theorem c_X3_takeStep {l : Launch} {D : va_G} {hp : Heap} {cI cJ cO : ClassId} {h : Nat} {xa : Nat → Nat} {ea0 : Nat} {pa0 : Nat → Nat → Nat} {C0 C' : CS} {x1 r' : Int32} (hg : gN C0 ≤ 80 ∧ gE C0 ≤ 1048576) (hf : f_X3_takeStep x1 C0 = some (r', C')) : Met l yX3_takeStep wsX3_takeStep ({ frames := 4, cells := 7 * (80 - gN C0) + (1048576 - gE C0) / 256, slots := 108 * (80 - gN C0) + 2 * (1048576 - gE C0), locals := 111 }) (va_Pc [.ref h, .int x1] (k_PreH D [(cI, .int), (cO, .object RX0), (cJ, .long)] (cW cI cJ cO h xa ea0 pa0 C0) hp)) (va_Qv (fun (u : va_W × List (ClassId × FieldType)) => ∃ (ea' : Nat) (pa' : Nat → Nat → Nat), u = (cW cI cJ cO h xa ea' pa' C', [(cI, .int), (cO, .object RX0), (cJ, .long)]) ∧ (gN C0 ≤ gN C' ∧ gN C' ≤ 80 ∧ gE C0 ≤ gE C' ∧ gE C' ≤ 1048576) ∧ ∀ n, n < gN C0 → pa' n = pa0 n) (k_BM D (va_A (cW cI cJ cO h xa ea0 pa0 C0) hp.size) hp (7 * (gN C' - gN C0) + (gE C' - gE C0) / 256) (108 * (gN C' - gN C0) + 2 * (gE C' - gE C0))) (va_A (cW cI cJ cO h xa ea0 pa0 C0) hp.size)) (7 * (80 - gN C0) + (1048576 - gE C0) / 256) (108 * (80 - gN C0) + 2 * (1048576 - gE C0)) (va_A (cW cI cJ cO h xa ea0 pa0 C0) hp.size) := by
  refine Met.ofW (cc := cX3_takeStep) (maxL := 4) (ret := none) (by decide) rfl ?_
  intro p e s m args below meth c s₁ B hml hv
  obtain ⟨rfl, hsz, hP, hK, hD0⟩ := hv
  have hx := B.exec
  have hb := B.bytes
  have hr := B.returns
  have hts := atoms_spec (ws := wsX3_takeStep) B.pre
  have hown : s.vm.findClass RX3 = some m.cls := findClass_of_methodNamed B.named
  have hlocks := B.notSynchronized
  have hsz : s.heap = hp := hsz
  subst hsz
  have hD := hD0.self (sz := s.heap.size)
  generalize hAe : va_A (cW cI cJ cO h xa ea0 pa0 C0) s.heap.size = A at hD ⊢
  have hA : ∀ q : Nat, s.heap.size ≤ q → A q := fun q h => by rw [← hAe]; exact Or.inr h
  have hS : va_S A s.heap s.heap [] := va_S.rf
  have hl := lv_entry ([.ref h, .int x1]) (n := 4) (Nat.le_of_ble_eq_true rfl)
  rw [lg_entry_eq]
  generalize (lg_sl ([.ref h, .int x1]) ++ List.replicate (4 - (lg_sl ([.ref h, .int x1])).length) Slot.unset).toArray = ls at hl ⊢
  have hl : lv_has ls 4 [(0, .ref h), (1, .int x1)] := hl
  refine k_Q (fun Q hQ => ?_)
  have B67 : ∀ (v1 : Int32) (y2 : Nat)  (C : CS) (ea : Nat) (pa : Nat → Nat → Nat) (H : Heap) (locs : List Loc) (ls : Array Slot), f_X3_takeStep_67 v1 y2 C = some (r', C') → (gN C0 ≤ gN C ∧ gN C ≤ 80 ∧ gE C0 ≤ gE C ∧ gE C ≤ 1048576) → (∀ n, n < gN C0 → pa n = pa0 n) → y2 < gN C → va_P D vwCl (cW cI cJ cO h xa ea pa C) H → va_D A (cW cI cJ cO h xa ea pa C) → va_S A s.heap H locs → lv_has ls 4 [(0, .ref h), (1, .int v1), (2, .ref (pa y2 0))] → W p l e (headSpec wsX3_takeStep ({ frames := 4, cells := 7 * (80 - gN C0) + (1048576 - gE C0) / 256, slots := 108 * (80 - gN C0) + 2 * (1048576 - gE C0), locals := 111 })).room s m ([.ref h, .int x1] : List Value).toArray below meth c H locs ((7 * (gN C - gN C0) + (gE C - gE C0) / 256)) ((108 * (gN C - gN C0) + 2 * (gE C - gE C0))) Q (F0 m 67 ls []) := by
    intro v1 y2  C ea pa H locs ls hq hg hpa hn_y2 hP hD hS hl
    rw [f_X3_takeStep_67] at hq
    refine lv_aload_n hx hb dX3_takeStep_67 rfl (lv_at hl 2 rfl) ?_
    obtain ⟨q4, C4, h4, hq⟩ := k_bd hq
    have hFc := k_free hD hS hA
    refine va_calli (va_runV (As := []) (rest := []) ⟨hx, hb, hml, hown, hts⟩ (c_X0_hasStep (l := l) (D := D) (cI := cI) (cJ := cJ) (cO := cO) (h := h) (xa := xa) (ea0 := ea) (pa0 := pa)  (hn0 := by show y2 < gN C; omega) (hf := h4)) (cwV 0 hts gX3_takeStep_X0_hasStep rfl rfl rfl (by decide +kernel) ⟨Nat.le_of_ble_eq_true rfl, Nat.le_of_ble_eq_true rfl⟩) ⟨k_blind, va_recv hK hP (ci := 0) (q0 := (16 + (7 * y2 + 0))) rfl (cW_get (show y2 < gN C from by omega) rfl), fun U hU hW => ⟨rfl, k_pre hU hW hP hK hD⟩⟩ rfl rfl hl.1 rfl (lv_room (Nat.le_of_ble_eq_true rfl)) dX3_takeStep_68 ⟨by show (7 * (gN C - gN C0) + (gE C - gE C0) / 256) + 0 ≤ 7 * (80 - gN C0) + (1048576 - gE C0) / 256; omega, by show (108 * (gN C - gN C0) + 2 * (gE C - gE C0)) + 0 ≤ 108 * (80 - gN C0) + 2 * (1048576 - gE C0); omega⟩) hS (fun q _ h => hFc q h) hFc (fun r4 u t H1 locs ht hvm hw hB hz1 hk1 hS => ?_)
    obtain ⟨rfl, rfl, hg4, hh4⟩ := hw
    have hg4 : gN C4 = gN C := hg4
    have hh4 : gE C4 = gE C := hh4
    refine W.widen (k := (7 * (gN C4 - gN C0) + (gE C4 - gE C0) / 256)) (n := (108 * (gN C4 - gN C0) + 2 * (gE C4 - gE C0))) (by omega) (by omega) ?_
    obtain ⟨hP1, hK1, hD1⟩ := hB
    rw [ht] at hP1
    have hP := hP1
    have hD := k_weak hD1 hFc
    generalize H1 = H at hP hS ⊢
    have hP : va_P D vwCl (cW cI cJ cO h xa ea pa C4) _ := hP
    have hD : va_D A (cW cI cJ cO h xa ea pa C4) := hD
    refine lv_if_ne (tgt := 79) hx hb dX3_takeStep_71 (by decide) (fun c5 => ?_) (fun c5 => ?_)
    · skip
      rw [if_neg c5] at hq
      obtain ⟨e2, e3⟩ := k_so hq
      subst hQ
      have hP : va_P D vwCl (cW cI cJ cO h xa ea pa C4) _ := hP
      have hD : va_D A (cW cI cJ cO h xa ea pa C4) := hD
      have hgE := congrArg (fun X : CS => gN X) e3
      have hgE : gN C4 = gN C' := hgE
      have hhE := congrArg (fun X : CS => gE X) e3
      have hhE : gE C4 = gE C' := hhE
      refine k_facts (fun hm1 hm2 hm3 => ?_)
      refine W.widen (k := 7 * (80 - gN C0) + (1048576 - gE C0) / 256) (n := 108 * (80 - gN C0) + 2 * (1048576 - gE C0)) (by omega) (by omega) ?_
      exact W.vret hx hb hr (fun t ht hW => ⟨⟨(cW cI cJ cO h xa ea pa C4, [(cI, .int), (cO, .object RX0), (cJ, .long)]), rfl, ⟨ea, pa, (congrArg (fun X : CS => ((cW cI cJ cO h xa ea pa X, [(cI, .int), (cO, .object RX0), (cJ, .long)]) : va_W × List (ClassId × FieldType))) e3), (by show gN C0 ≤ gN C' ∧ gN C' ≤ 80 ∧ gE C0 ≤ gE C' ∧ gE C' ≤ 1048576; omega), hpa⟩, ⟨⟨by rw [ht]; exact hP, va_K.moved hW.alike hK, hD⟩, by rw [ht]; exact hm3, by rw [ht]; omega, by rw [ht]; omega⟩⟩, hS.F ht⟩) hS.2.2 dX3_takeStep_79
    · skip
      rw [if_pos c5] at hq
      refine lv_aload_n hx hb dX3_takeStep_74 rfl (lv_at hl 0 rfl) ?_
      refine lv_iload_n hx hb dX3_takeStep_75 rfl (lv_at hl 1 rfl) ?_
      obtain ⟨r6, C6, h6, hq⟩ := k_bd hq
      have hFc := k_free hD hS hA
      refine k_facts (fun hn1 hn2 hn3 => ?_)
      refine va_callv (va_runV (As := [.int v1]) (rest := []) ⟨hx, hb, hml, hown, hts⟩ (c_X3_finishAct (l := l) (D := D) (cI := cI) (cJ := cJ) (cO := cO) (h := h) (xa := xa) (ea0 := ea) (pa0 := pa)  (hg := by show gN C4 ≤ 80 ∧ gE C4 ≤ 1048576; omega) (hf := h6)) (cwV 1 hts gX3_takeStep_X3_finishAct rfl rfl rfl (by decide +kernel) ⟨Nat.le_of_ble_eq_true rfl, Nat.le_of_ble_eq_true rfl⟩) ⟨k_blindH, va_recv hK hP (ci := 3) (q0 := 0) rfl rfl, fun U hU hW => ⟨rfl, k_preH hU hW hP hK hD⟩⟩ rfl rfl hl.1 rfl (lv_room (Nat.le_of_ble_eq_true rfl)) dX3_takeStep_76 ⟨by show (7 * (gN C4 - gN C0) + (gE C4 - gE C0) / 256) + (7 * (80 - gN C4) + (1048576 - gE C4) / 256) ≤ 7 * (80 - gN C0) + (1048576 - gE C0) / 256; omega, by show (108 * (gN C4 - gN C0) + 2 * (gE C4 - gE C0)) + (108 * (80 - gN C4) + 2 * (1048576 - gE C4)) ≤ 108 * (80 - gN C0) + 2 * (1048576 - gE C0); omega⟩) hS (fun q _ h => hFc q h) hFc (fun u t H1 locs ht hvm hw hB hz1 hk1 hS => ?_)
      obtain ⟨ea6, pa6, rfl, hg6, hp6⟩ := hw
      have hg6 : gN C4 ≤ gN C6 ∧ gN C6 ≤ 80 ∧ gE C4 ≤ gE C6 ∧ gE C6 ≤ 1048576 := hg6
      have hpa : ∀ n, n < gN C0 → pa6 n = pa0 n := fun n hn => (hp6 n (by show n < gN C4; omega)).trans (hpa n hn)
      obtain ⟨hB, hz2, hz3, hz4⟩ := hB
      rw [ht] at hz2 hz3 hz4
      refine k_tight (k := (7 * (gN C6 - gN C0) + (gE C6 - gE C0) / 256)) (n := (108 * (gN C6 - gN C0) + 2 * (gE C6 - gE C0))) (by omega) (by rw [k_nS_tr hn3.1 hz2]; omega) ?_
      have hl : lv_has ls 4 [(0, .ref h), (1, .int v1), (2, .ref (pa6 y2 0))] := by rw [hp6 y2 (by show y2 < gN C4; omega)]; exact hl
      obtain ⟨hP1, hK1, hD1⟩ := hB
      rw [ht] at hP1
      have hP := hP1
      have hD := k_weak hD1 hFc
      generalize H1 = H at hP hS ⊢
      have hP : va_P D vwCl (cW cI cJ cO h xa ea6 pa6 C6) _ := hP
      have hD : va_D A (cW cI cJ cO h xa ea6 pa6 C6) := hD
      obtain ⟨e2, e3⟩ := k_so hq
      subst hQ
      have hP : va_P D vwCl (cW cI cJ cO h xa ea6 pa6 C6) _ := hP
      have hD : va_D A (cW cI cJ cO h xa ea6 pa6 C6) := hD
      have hgE := congrArg (fun X : CS => gN X) e3
      have hgE : gN C6 = gN C' := hgE
      have hhE := congrArg (fun X : CS => gE X) e3
      have hhE : gE C6 = gE C' := hhE
      refine k_facts (fun hm1 hm2 hm3 => ?_)
      refine W.widen (k := 7 * (80 - gN C0) + (1048576 - gE C0) / 256) (n := 108 * (80 - gN C0) + 2 * (1048576 - gE C0)) (by omega) (by omega) ?_
      exact W.vret hx hb hr (fun t ht hW => ⟨⟨(cW cI cJ cO h xa ea6 pa6 C6, [(cI, .int), (cO, .object RX0), (cJ, .long)]), rfl, ⟨ea6, pa6, (congrArg (fun X : CS => ((cW cI cJ cO h xa ea6 pa6 X, [(cI, .int), (cO, .object RX0), (cJ, .long)]) : va_W × List (ClassId × FieldType))) e3), (by show gN C0 ≤ gN C' ∧ gN C' ≤ 80 ∧ gE C0 ≤ gE C' ∧ gE C' ≤ 1048576; omega), hpa⟩, ⟨⟨by rw [ht]; exact hP, va_K.moved hW.alike hK, hD⟩, by rw [ht]; exact hm3, by rw [ht]; omega, by rw [ht]; omega⟩⟩, hS.F ht⟩) hS.2.2 dX3_takeStep_79
  refine W.widen (k := (7 * (gN C0 - gN C0) + (gE C0 - gE C0) / 256)) (n := (108 * (gN C0 - gN C0) + 2 * (gE C0 - gE C0))) (by omega) (by omega) ?_
  have hpa : ∀ n, n < gN C0 → pa0 n = pa0 n := fun _ _ => rfl
  have hq := hf
  rw [f_X3_takeStep] at hq
  refine lv_aload_n hx hb dX3_takeStep_0 rfl (lv_at hl 0 rfl) ?_
  refine va_get (D := D) (ci := 3) (v := .ref (xa 5)) (C := RX3) (T := TX3) (N := 18) hx hb hts kin_X3_takeStep_X3 hown hK hP 0 rfl rfl 5 (by decide) (hts _ kw_X3_takeStep__fieldLink_RX3_27_ActHouse_acts_LActHouse_Act_) (fun _ h9 => h9) rfl dX3_takeStep_1 ?_
  refine lv_iload_n hx hb dX3_takeStep_4 rfl (lv_at hl 1 rfl) ?_
  obtain ⟨b1, hq⟩ := k_if hq
  refine va_aldq hx hb hK hP 6 1 (f := cActs pa0 (gN C0)) rfl rfl (k_in b1.1.1 b1.1.2) dX3_takeStep_5 ?_
  refine W.eq (g2 := F0 m 6 ls [.ref (pa0 x1.toNatClampNeg 0)]) (by rw [cActs_lt b1.2]; rfl) ?_
  refine lv_astore_n (lv' := [(2, .ref (pa0 x1.toNatClampNeg 0)), (0, .ref h), (1, .int x1)]) hx hb dX3_takeStep_6 rfl hl (by decide) rfl (fun ls hl => ?_)
  refine lv_aload_n hx hb dX3_takeStep_7 rfl (lv_at hl 0 rfl) ?_
  obtain ⟨q2, C2, h2, hq⟩ := k_bd hq
  have hFc := k_free hD hS hA
  refine va_calli (va_runV (As := []) (rest := []) ⟨hx, hb, hml, hown, hts⟩ (c_X0_hasStep (l := l) (D := D) (cI := cI) (cJ := cJ) (cO := cO) (h := h) (xa := xa) (ea0 := ea0) (pa0 := pa0)  (hn0 := by show x1.toNatClampNeg < gN C0; omega) (hf := h2)) (cwV 0 hts gX3_takeStep_X0_hasStep rfl rfl rfl (by decide +kernel) ⟨Nat.le_of_ble_eq_true rfl, Nat.le_of_ble_eq_true rfl⟩) ⟨k_blind, va_recv hK hP (ci := 0) (q0 := (16 + (7 * x1.toNatClampNeg + 0))) rfl (cW_get (show x1.toNatClampNeg < gN C0 from by omega) rfl), fun U hU hW => ⟨rfl, k_pre hU hW hP hK hD⟩⟩ rfl rfl hl.1 rfl (lv_room (Nat.le_of_ble_eq_true rfl)) dX3_takeStep_8 ⟨by show (7 * (gN C0 - gN C0) + (gE C0 - gE C0) / 256) + 0 ≤ 7 * (80 - gN C0) + (1048576 - gE C0) / 256; omega, by show (108 * (gN C0 - gN C0) + 2 * (gE C0 - gE C0)) + 0 ≤ 108 * (80 - gN C0) + 2 * (1048576 - gE C0); omega⟩) hS (fun q _ h => hFc q h) hFc (fun r2 u t H1 locs ht hvm hw hB hz1 hk1 hS => ?_)
  obtain ⟨rfl, rfl, hg2, hh2⟩ := hw
  have hg2 : gN C2 = gN C0 := hg2
  have hh2 : gE C2 = gE C0 := hh2
  refine W.widen (k := (7 * (gN C2 - gN C0) + (gE C2 - gE C0) / 256)) (n := (108 * (gN C2 - gN C0) + 2 * (gE C2 - gE C0))) (by omega) (by omega) ?_
  obtain ⟨hP1, hK1, hD1⟩ := hB
  rw [ht] at hP1
  have hP := hP1
  have hD := k_weak hD1 hFc
  generalize H1 = H at hP hS ⊢
  have hP : va_P D vwCl (cW cI cJ cO h xa ea0 pa0 C2) _ := hP
  have hD : va_D A (cW cI cJ cO h xa ea0 pa0 C2) := hD
  refine lv_if_eq (tgt := 67) hx hb dX3_takeStep_11 (by decide) (fun c3 => ?_) (fun c3 => ?_)
  · skip
    rw [if_pos c3] at hq
    exact B67  x1 x1.toNatClampNeg C2 ea0 pa0 _ _ _ hq (by show (gN C0 ≤ gN C2 ∧ gN C2 ≤ 80 ∧ gE C0 ≤ gE C2 ∧ gE C2 ≤ 1048576); omega) hpa (by show x1.toNatClampNeg < gN C2; omega) hP hD hS (lv_sub hl [1, 2, 0] rfl)
  · skip
    rw [if_neg c3] at hq
    refine lv_aload_n hx hb dX3_takeStep_14 rfl (lv_at hl 0 rfl) ?_
    refine va_get (D := D) (ci := 0) (v := .ref (pa0 x1.toNatClampNeg 4)) (C := RX0) (T := TX0) (N := 20) hx hb hts kin_X3_takeStep_X0 hown hK hP (16 + (7 * x1.toNatClampNeg + 0)) (cW_get (show x1.toNatClampNeg < gN C2 from by omega) rfl) rfl 4 (by decide) (hts _ kw_X3_takeStep__fieldLink_RX3_204_ActHouse_Act_steps_I_) (fun _ h9 => h9) rfl dX3_takeStep_15 ?_
    refine lv_aload_n hx hb dX3_takeStep_18 rfl (lv_at hl 0 rfl) ?_
    refine va_get (D := D) (ci := 0) (v := .int (gP C2 x1.toNatClampNeg 14)) (C := RX0) (T := TX0) (N := 20) hx hb hts kin_X3_takeStep_X0 hown hK hP (16 + (7 * x1.toNatClampNeg + 0)) (cW_get (show x1.toNatClampNeg < gN C2 from by omega) rfl) rfl 14 (by decide) (hts _ kw_X3_takeStep__fieldLink_RX3_129_ActHouse_Act_at_I_) (fun _ h9 => h9) rfl dX3_takeStep_19 ?_
    obtain ⟨b7, hq⟩ := k_if hq
    refine va_iald hx hb hK hP (16 + (7 * x1.toNatClampNeg + 1)) 0 (f := (gQ C2 x1.toNatClampNeg 4)) (cW_get (show x1.toNatClampNeg < gN C2 from by omega) rfl) rfl (k_in b7.1 b7.2) dX3_takeStep_22 ?_
    refine lv_istore_n (lv' := [(3, .int ((gQ C2 x1.toNatClampNeg 4) (gP C2 x1.toNatClampNeg 14).toNatClampNeg)), (2, .ref (pa0 x1.toNatClampNeg 0)), (0, .ref h), (1, .int x1)]) hx hb dX3_takeStep_23 rfl hl (by decide) rfl (fun ls hl => ?_)
    refine lv_aload_n hx hb dX3_takeStep_24 rfl (lv_at hl 2 rfl) ?_
    refine lv_iload_n hx hb dX3_takeStep_25 rfl (lv_at hl 3 rfl) ?_
    refine lv_iload_n hx hb dX3_takeStep_26 rfl (lv_at hl 0 rfl) ?_
    obtain ⟨q8, C8, h8, hq⟩ := k_bd hq
    have hFc := k_free hD hS hA
    refine va_calli (va_runV (As := [.int x1, .int ((gQ C2 x1.toNatClampNeg 4) (gP C2 x1.toNatClampNeg 14).toNatClampNeg)]) (rest := []) ⟨hx, hb, hml, hown, hts⟩ (c_X3_canBe (l := l) (D := D) (cI := cI) (cJ := cJ) (cO := cO) (h := h) (xa := xa) (ea0 := ea0) (pa0 := pa0)  (hf := h8)) (cwV 2 hts gX3_takeStep_X3_canBe rfl rfl rfl (by decide +kernel) ⟨Nat.le_of_ble_eq_true rfl, Nat.le_of_ble_eq_true rfl⟩) ⟨k_blind, va_recv hK hP (ci := 3) (q0 := 0) rfl rfl, fun U hU hW => ⟨rfl, k_pre hU hW hP hK hD⟩⟩ rfl rfl hl.1 rfl (lv_room (Nat.le_of_ble_eq_true rfl)) dX3_takeStep_27 ⟨by show (7 * (gN C2 - gN C0) + (gE C2 - gE C0) / 256) + 0 ≤ 7 * (80 - gN C0) + (1048576 - gE C0) / 256; omega, by show (108 * (gN C2 - gN C0) + 2 * (gE C2 - gE C0)) + 0 ≤ 108 * (80 - gN C0) + 2 * (1048576 - gE C0); omega⟩) hS (fun q _ h => hFc q h) hFc (fun r8 u t H1 locs ht hvm hw hB hz1 hk1 hS => ?_)
    obtain ⟨rfl, rfl, hg8, hh8⟩ := hw
    have hg8 : gN C8 = gN C2 := hg8
    have hh8 : gE C8 = gE C2 := hh8
    refine W.widen (k := (7 * (gN C8 - gN C0) + (gE C8 - gE C0) / 256)) (n := (108 * (gN C8 - gN C0) + 2 * (gE C8 - gE C0))) (by omega) (by omega) ?_
    obtain ⟨hP1, hK1, hD1⟩ := hB
    rw [ht] at hP1
    have hP := hP1
    have hD := k_weak hD1 hFc
    generalize H1 = H at hP hS ⊢
    have hP : va_P D vwCl (cW cI cJ cO h xa ea0 pa0 C8) _ := hP
    have hD : va_D A (cW cI cJ cO h xa ea0 pa0 C8) := hD
    refine lv_if_ne (tgt := 42) hx hb dX3_takeStep_30 (by decide) (fun c9 => ?_) (fun c9 => ?_)
    · skip
      rw [if_neg c9] at hq
      refine lv_aload_n hx hb dX3_takeStep_42 rfl (lv_at hl 1 rfl) ?_
      refine lv_dup hx hb dX3_takeStep_43 rfl ?_
      refine va_get (D := D) (ci := 0) (v := .int (gP C8 x1.toNatClampNeg 14)) (C := RX0) (T := TX0) (N := 20) hx hb hts kin_X3_takeStep_X0 hown hK hP (16 + (7 * x1.toNatClampNeg + 0)) (cW_get (show x1.toNatClampNeg < gN C8 from by omega) rfl) rfl 14 (by decide) (hts _ kw_X3_takeStep__fieldLink_RX3_129_ActHouse_Act_at_I_) (fun _ h9 => h9) rfl dX3_takeStep_44 ?_
      refine lv_iconst (v := 1) hx hb dX3_takeStep_47 (by decide) ?_
      refine lv_iadd hx hb dX3_takeStep_48 ?_
      refine va_put (D := D) (ci := 0) (v := .int ((gP C8 x1.toNatClampNeg 14) + 1)) (ty := .int) (C := RX0) (T := TX0) (N := 20) hx hb hts kin_X3_takeStep_X0 tyX0 tyX0_ok nmX0 hown hK hP hD hS (16 + (7 * x1.toNatClampNeg + 0)) (fs := aF (pa0 x1.toNatClampNeg) (gP C8 x1.toNatClampNeg)) (cW_get (show x1.toNatClampNeg < gN C8 from by omega) rfl) rfl 14 (by decide) (hts _ kw_X3_takeStep__fieldLink_RX3_129_ActHouse_Act_at_I_) (fun _ h9 => h9) rfl (by decide +kernel) rfl rfl (Nat.le_of_ble_eq_true rfl) dX3_takeStep_49 (fun H locs hP hD hS => ?_)
      obtain ⟨C10, eC10, hg10, hh10, hq⟩ := k_lc (C := C8) hq rfl rfl
      rw [cP_eq14 (show x1.toNatClampNeg < gN C8 from by omega), ← eC10] at hP hD
      have hP : va_P D vwCl (cW cI cJ cO h xa ea0 pa0 C10) _ := hP
      have hD : va_D A (cW cI cJ cO h xa ea0 pa0 C10) := hD
      refine W.widen (k := (7 * (gN C10 - gN C0) + (gE C10 - gE C0) / 256)) (n := (108 * (gN C10 - gN C0) + 2 * (gE C10 - gE C0))) (by omega) (by omega) ?_
      refine lv_aload_n hx hb dX3_takeStep_52 rfl (lv_at hl 2 rfl) ?_
      refine lv_iload_n hx hb dX3_takeStep_53 rfl (lv_at hl 3 rfl) ?_
      refine lv_iload_n hx hb dX3_takeStep_54 rfl (lv_at hl 0 rfl) ?_
      obtain ⟨q11, C11, h11, hq⟩ := k_bd hq
      have hFc := k_free hD hS hA
      refine k_facts (fun hn1 hn2 hn3 => ?_)
      refine va_calli (va_runV (As := [.int x1, .int ((gQ C2 x1.toNatClampNeg 4) (gP C2 x1.toNatClampNeg 14).toNatClampNeg)]) (rest := []) ⟨hx, hb, hml, hown, hts⟩ (c_X3_perform (l := l) (D := D) (cI := cI) (cJ := cJ) (cO := cO) (h := h) (xa := xa) (ea0 := ea0) (pa0 := pa0)  (hg := by show gN C10 ≤ 80 ∧ gE C10 ≤ 1048576; omega) (hf := h11)) (cwV 2 hts gX3_takeStep_X3_perform rfl rfl rfl (by decide +kernel) ⟨Nat.le_of_ble_eq_true rfl, Nat.le_of_ble_eq_true rfl⟩) ⟨k_blindH, va_recv hK hP (ci := 3) (q0 := 0) rfl rfl, fun U hU hW => ⟨rfl, k_preH hU hW hP hK hD⟩⟩ rfl rfl hl.1 rfl (lv_room (Nat.le_of_ble_eq_true rfl)) dX3_takeStep_55 ⟨by show (7 * (gN C10 - gN C0) + (gE C10 - gE C0) / 256) + (7 * (80 - gN C10) + (1048576 - gE C10) / 256) ≤ 7 * (80 - gN C0) + (1048576 - gE C0) / 256; omega, by show (108 * (gN C10 - gN C0) + 2 * (gE C10 - gE C0)) + (108 * (80 - gN C10) + 2 * (1048576 - gE C10)) ≤ 108 * (80 - gN C0) + 2 * (1048576 - gE C0); omega⟩) hS (fun q _ h => hFc q h) hFc (fun r11 u t H1 locs ht hvm hw hB hz1 hk1 hS => ?_)
      obtain ⟨ea11, pa11, rfl, rfl, hg11, hp11⟩ := hw
      have hg11 : gN C10 ≤ gN C11 ∧ gN C11 ≤ 80 ∧ gE C10 ≤ gE C11 ∧ gE C11 ≤ 1048576 := hg11
      have hpa : ∀ n, n < gN C0 → pa11 n = pa0 n := fun n hn => (hp11 n (by show n < gN C10; omega)).trans (hpa n hn)
      obtain ⟨hB, hz2, hz3, hz4⟩ := hB
      rw [ht] at hz2 hz3 hz4
      refine k_tight (k := (7 * (gN C11 - gN C0) + (gE C11 - gE C0) / 256)) (n := (108 * (gN C11 - gN C0) + 2 * (gE C11 - gE C0))) (by omega) (by rw [k_nS_tr hn3.1 hz2]; omega) ?_
      have hl : lv_has ls 4 [(3, .int ((gQ C2 x1.toNatClampNeg 4) (gP C2 x1.toNatClampNeg 14).toNatClampNeg)), (2, .ref (pa11 x1.toNatClampNeg 0)), (0, .ref h), (1, .int x1)] := by rw [hp11 x1.toNatClampNeg (by show x1.toNatClampNeg < gN C10; omega)]; exact hl
      obtain ⟨hP1, hK1, hD1⟩ := hB
      rw [ht] at hP1
      have hP := hP1
      have hD := k_weak hD1 hFc
      generalize H1 = H at hP hS ⊢
      have hP : va_P D vwCl (cW cI cJ cO h xa ea11 pa11 C11) _ := hP
      have hD : va_D A (cW cI cJ cO h xa ea11 pa11 C11) := hD
      refine lv_if_ne (tgt := 67) hx hb dX3_takeStep_58 (by decide) (fun c12 => ?_) (fun c12 => ?_)
      · skip
        rw [if_neg c12] at hq
        exact B67  x1 x1.toNatClampNeg C11 ea11 pa11 _ _ _ hq (by show (gN C0 ≤ gN C11 ∧ gN C11 ≤ 80 ∧ gE C0 ≤ gE C11 ∧ gE C11 ≤ 1048576); omega) hpa (by show x1.toNatClampNeg < gN C11; omega) hP hD hS (lv_sub hl [2, 3, 1] rfl)
      · skip
        rw [if_pos c12] at hq
        refine lv_aload_n hx hb dX3_takeStep_61 rfl (lv_at hl 2 rfl) ?_
        refine lv_iload_n hx hb dX3_takeStep_62 rfl (lv_at hl 3 rfl) ?_
        obtain ⟨r13, C13, h13, hq⟩ := k_bd hq
        have hFc := k_free hD hS hA
        refine k_facts (fun hn1 hn2 hn3 => ?_)
        refine va_callv (va_runV (As := [.int x1]) (rest := []) ⟨hx, hb, hml, hown, hts⟩ (c_X3_stopAct (l := l) (D := D) (cI := cI) (cJ := cJ) (cO := cO) (h := h) (xa := xa) (ea0 := ea11) (pa0 := pa11)  (hg := by show gN C11 ≤ 80 ∧ gE C11 ≤ 1048576; omega) (hf := h13)) (cwV 1 hts gX3_takeStep_X3_stopAct rfl rfl rfl (by decide +kernel) ⟨Nat.le_of_ble_eq_true rfl, Nat.le_of_ble_eq_true rfl⟩) ⟨k_blindH, va_recv hK hP (ci := 3) (q0 := 0) rfl rfl, fun U hU hW => ⟨rfl, k_preH hU hW hP hK hD⟩⟩ rfl rfl hl.1 rfl (lv_room (Nat.le_of_ble_eq_true rfl)) dX3_takeStep_63 ⟨by show (7 * (gN C11 - gN C0) + (gE C11 - gE C0) / 256) + (7 * (80 - gN C11) + (1048576 - gE C11) / 256) ≤ 7 * (80 - gN C0) + (1048576 - gE C0) / 256; omega, by show (108 * (gN C11 - gN C0) + 2 * (gE C11 - gE C0)) + (108 * (80 - gN C11) + 2 * (1048576 - gE C11)) ≤ 108 * (80 - gN C0) + 2 * (1048576 - gE C0); omega⟩) hS (fun q _ h => hFc q h) hFc (fun u t H1 locs ht hvm hw hB hz1 hk1 hS => ?_)
        obtain ⟨ea13, pa13, rfl, hg13, hp13⟩ := hw
        have hg13 : gN C11 ≤ gN C13 ∧ gN C13 ≤ 80 ∧ gE C11 ≤ gE C13 ∧ gE C13 ≤ 1048576 := hg13
        have hpa : ∀ n, n < gN C0 → pa13 n = pa0 n := fun n hn => (hp13 n (by show n < gN C11; omega)).trans (hpa n hn)
        obtain ⟨hB, hz2, hz3, hz4⟩ := hB
        rw [ht] at hz2 hz3 hz4
        refine k_tight (k := (7 * (gN C13 - gN C0) + (gE C13 - gE C0) / 256)) (n := (108 * (gN C13 - gN C0) + 2 * (gE C13 - gE C0))) (by omega) (by rw [k_nS_tr hn3.1 hz2]; omega) ?_
        have hl : lv_has ls 4 [(3, .int ((gQ C2 x1.toNatClampNeg 4) (gP C2 x1.toNatClampNeg 14).toNatClampNeg)), (2, .ref (pa13 x1.toNatClampNeg 0)), (0, .ref h), (1, .int x1)] := by rw [hp13 x1.toNatClampNeg (by show x1.toNatClampNeg < gN C11; omega)]; exact hl
        obtain ⟨hP1, hK1, hD1⟩ := hB
        rw [ht] at hP1
        have hP := hP1
        have hD := k_weak hD1 hFc
        generalize H1 = H at hP hS ⊢
        have hP : va_P D vwCl (cW cI cJ cO h xa ea13 pa13 C13) _ := hP
        have hD : va_D A (cW cI cJ cO h xa ea13 pa13 C13) := hD
        obtain ⟨e2, e3⟩ := k_so hq
        subst hQ
        have hP : va_P D vwCl (cW cI cJ cO h xa ea13 pa13 C13) _ := hP
        have hD : va_D A (cW cI cJ cO h xa ea13 pa13 C13) := hD
        have hgE := congrArg (fun X : CS => gN X) e3
        have hgE : gN C13 = gN C' := hgE
        have hhE := congrArg (fun X : CS => gE X) e3
        have hhE : gE C13 = gE C' := hhE
        refine k_facts (fun hm1 hm2 hm3 => ?_)
        refine W.widen (k := 7 * (80 - gN C0) + (1048576 - gE C0) / 256) (n := 108 * (80 - gN C0) + 2 * (1048576 - gE C0)) (by omega) (by omega) ?_
        exact W.vret hx hb hr (fun t ht hW => ⟨⟨(cW cI cJ cO h xa ea13 pa13 C13, [(cI, .int), (cO, .object RX0), (cJ, .long)]), rfl, ⟨ea13, pa13, (congrArg (fun X : CS => ((cW cI cJ cO h xa ea13 pa13 X, [(cI, .int), (cO, .object RX0), (cJ, .long)]) : va_W × List (ClassId × FieldType))) e3), (by show gN C0 ≤ gN C' ∧ gN C' ≤ 80 ∧ gE C0 ≤ gE C' ∧ gE C' ≤ 1048576; omega), hpa⟩, ⟨⟨by rw [ht]; exact hP, va_K.moved hW.alike hK, hD⟩, by rw [ht]; exact hm3, by rw [ht]; omega, by rw [ht]; omega⟩⟩, hS.F ht⟩) hS.2.2 dX3_takeStep_66
    · skip
      rw [if_pos c9] at hq
      refine lv_aload_n hx hb dX3_takeStep_33 rfl (lv_at hl 1 rfl) ?_
      refine lv_aload_n hx hb dX3_takeStep_34 rfl (lv_at hl 2 rfl) ?_
      refine va_get (D := D) (ci := 3) (v := .int (C8.1 15)) (C := RX3) (T := TX3) (N := 18) hx hb hts kin_X3_takeStep_X3 hown hK hP 0 rfl rfl 15 (by decide) (hts _ kw_X3_takeStep__fieldLink_RX3_79_ActHouse_now_I_) (fun _ h9 => h9) rfl dX3_takeStep_35 ?_
      refine va_put (D := D) (ci := 0) (v := .int (C8.1 15)) (ty := .int) (C := RX0) (T := TX0) (N := 20) hx hb hts kin_X3_takeStep_X0 tyX0 tyX0_ok nmX0 hown hK hP hD hS (16 + (7 * x1.toNatClampNeg + 0)) (fs := aF (pa0 x1.toNatClampNeg) (gP C8 x1.toNatClampNeg)) (cW_get (show x1.toNatClampNeg < gN C8 from by omega) rfl) rfl 15 (by decide) (hts _ kw_X3_takeStep__fieldLink_RX3_132_ActHouse_Act_heldTick_I_) (fun _ h9 => h9) rfl (by decide +kernel) rfl rfl (Nat.le_of_ble_eq_true rfl) dX3_takeStep_38 (fun H locs hP hD hS => ?_)
      obtain ⟨C14, eC14, hg14, hh14, hq⟩ := k_lc (C := C8) hq rfl rfl
      rw [cP_eq15 (show x1.toNatClampNeg < gN C8 from by omega), ← eC14] at hP hD
      have hP : va_P D vwCl (cW cI cJ cO h xa ea0 pa0 C14) _ := hP
      have hD : va_D A (cW cI cJ cO h xa ea0 pa0 C14) := hD
      refine W.widen (k := (7 * (gN C14 - gN C0) + (gE C14 - gE C0) / 256)) (n := (108 * (gN C14 - gN C0) + 2 * (gE C14 - gE C0))) (by omega) (by omega) ?_
      obtain ⟨e2, e3⟩ := k_so hq
      subst hQ
      have hP : va_P D vwCl (cW cI cJ cO h xa ea0 pa0 C14) _ := hP
      have hD : va_D A (cW cI cJ cO h xa ea0 pa0 C14) := hD
      have hgE := congrArg (fun X : CS => gN X) e3
      have hgE : gN C14 = gN C' := hgE
      have hhE := congrArg (fun X : CS => gE X) e3
      have hhE : gE C14 = gE C' := hhE
      refine k_facts (fun hm1 hm2 hm3 => ?_)
      refine W.widen (k := 7 * (80 - gN C0) + (1048576 - gE C0) / 256) (n := 108 * (80 - gN C0) + 2 * (1048576 - gE C0)) (by omega) (by omega) ?_
      exact W.vret hx hb hr (fun t ht hW => ⟨⟨(cW cI cJ cO h xa ea0 pa0 C14, [(cI, .int), (cO, .object RX0), (cJ, .long)]), rfl, ⟨ea0, pa0, (congrArg (fun X : CS => ((cW cI cJ cO h xa ea0 pa0 X, [(cI, .int), (cO, .object RX0), (cJ, .long)]) : va_W × List (ClassId × FieldType))) e3), (by show gN C0 ≤ gN C' ∧ gN C' ≤ 80 ∧ gE C0 ≤ gE C' ∧ gE C' ≤ 1048576; omega), hpa⟩, ⟨⟨by rw [ht]; exact hP, va_K.moved hW.alike hK, hD⟩, by rw [ht]; exact hm3, by rw [ht]; omega, by rw [ht]; omega⟩⟩, hS.F ht⟩) hS.2.2 dX3_takeStep_41
set_option maxRecDepth 100000 in
theorem kw_X3_gatherRunning__fieldLink_RX3_194_ActHouse_runningCount_I_ : (.fieldLink RX3 194 "ActHouse" "runningCount" "I" : Cond) ∈ wsX3_gatherRunning := by decide +kernel
set_option maxRecDepth 100000 in
theorem kin_X3_gatherRunning_X3 : ∀ w ∈ u_ws RX3 TX3 18, w ∈ wsX3_gatherRunning := by decide +kernel
set_option maxRecDepth 100000 in
theorem kw_X3_gatherRunning__fieldLink_RX3_102_ActHouse_actCount_I_ : (.fieldLink RX3 102 "ActHouse" "actCount" "I" : Cond) ∈ wsX3_gatherRunning := by decide +kernel
set_option maxRecDepth 100000 in
theorem kw_X3_gatherRunning__fieldLink_RX3_27_ActHouse_acts_LActHouse_Act_ : (.fieldLink RX3 27 "ActHouse" "acts" "[LActHouse$Act;" : Cond) ∈ wsX3_gatherRunning := by decide +kernel
set_option maxRecDepth 100000 in
theorem kw_X3_gatherRunning__fieldLink_RX3_31_ActHouse_order_I_ : (.fieldLink RX3 31 "ActHouse" "order" "[I" : Cond) ∈ wsX3_gatherRunning := by decide +kernel
set_option maxRecDepth 100000 in
theorem kw_X3_gatherRunning__fieldLink_RX3_117_ActHouse_Act_state_I_ : (.fieldLink RX3 117 "ActHouse$Act" "state" "I" : Cond) ∈ wsX3_gatherRunning := by decide +kernel
set_option maxRecDepth 100000 in
theorem kin_X3_gatherRunning_X0 : ∀ w ∈ u_ws RX0 TX0 20, w ∈ wsX3_gatherRunning := by decide +kernel
set_option maxRecDepth 100000 in
theorem kw_X3_gatherRunning__fieldLink_RX3_37_ActHouse_running_I_ : (.fieldLink RX3 37 "ActHouse" "running" "[I" : Cond) ∈ wsX3_gatherRunning := by decide +kernel
def f_X3_gatherRunning_67 (K7 : Int32 → CS → Option (Int32 × CS)) (v1 : Int32)  (C : CS) : Option (Int32 × CS) := K7 (v1 + 1) C
def f_X3_gatherRunning_7  : Nat → Int32 → CS → Option (Int32 × CS)
  | 0, _, _ => none
  | k + 1, v1, C => (if (C.1 12) ≤ v1 then some ((0 : Int32), C) else (if 36 ≤ (C.1 14) then some ((0 : Int32), C) else (if 0 ≤ v1.toInt ∧ v1.toInt < 80 then (if (0 ≤ ((C.2.1 6) v1.toNatClampNeg).toInt ∧ ((C.2.1 6) v1.toNatClampNeg).toInt < 80) ∧ ((C.2.1 6) v1.toNatClampNeg).toNatClampNeg < gN C then (if (gP C (((C.2.1 6) v1.toNatClampNeg).toNatClampNeg) 12) = 1 then (if 0 ≤ (C.1 14).toInt ∧ (C.1 14).toInt < 36 then (k_let (cAF C 8 (upd (C.2.1 8) ((C.1 14).toNatClampNeg) ((C.2.1 6) v1.toNatClampNeg))) fun C8 => (k_let (cN C8 14 ((C8.1 14) + 1)) fun C9 => f_X3_gatherRunning_67 (fun (v1 : Int32) (C : CS) => f_X3_gatherRunning_7  k v1 C) v1 C9)) else none) else f_X3_gatherRunning_67 (fun (v1 : Int32) (C : CS) => f_X3_gatherRunning_7  k v1 C) v1 C) else none) else none)))
def f_X3_gatherRunning  (C0 : CS) : Option (Int32 × CS) := (k_let (cN C0 14 (0 : Int32)) fun C1 => f_X3_gatherRunning_7  200 (0 : Int32) C1)
set_option maxHeartbeats 4000000 in
set_option maxRecDepth 100000 in
theorem c_X3_gatherRunning {l : Launch} {D : va_G} {sz : Nat} {cI cJ cO : ClassId} {h : Nat} {xa : Nat → Nat} {ea0 : Nat} {pa0 : Nat → Nat → Nat} {C0 C' : CS} { r' : Int32} (hf : f_X3_gatherRunning  C0 = some (r', C')) : Met l yX3_gatherRunning wsX3_gatherRunning ({ frames := 0, cells := 0, slots := 0, locals := 0 }) (va_Pc [.ref h] (k_Pre D [(cI, .int), (cO, .object RX0), (cJ, .long)] (cW cI cJ cO h xa ea0 pa0 C0) sz)) (va_Qv (fun (u : va_W × List (ClassId × FieldType)) => u = (cW cI cJ cO h xa ea0 pa0 C', [(cI, .int), (cO, .object RX0), (cJ, .long)]) ∧ gN C' = gN C0 ∧ gE C' = gE C0) (k_B D (va_A (cW cI cJ cO h xa ea0 pa0 C0) sz)) (va_A (cW cI cJ cO h xa ea0 pa0 C0) sz)) (0) (0) (va_A (cW cI cJ cO h xa ea0 pa0 C0) sz) := by
  refine Met.ofW (cc := cX3_gatherRunning) (maxL := 2) (ret := none) (by decide) rfl ?_
  intro p e s m args below meth c s₁ B hml hv
  obtain ⟨rfl, hsz, hP, hK, hD0⟩ := hv
  have hx := B.exec
  have hb := B.bytes
  have hr := B.returns
  have hts := atoms_spec (ws := wsX3_gatherRunning) B.pre
  have hown : s.vm.findClass RX3 = some m.cls := findClass_of_methodNamed B.named
  have hlocks := B.notSynchronized
  subst hsz
  have hD := hD0.self (sz := s.heap.size)
  generalize hAe : va_A (cW cI cJ cO h xa ea0 pa0 C0) s.heap.size = A at hD ⊢
  have hA : ∀ q : Nat, s.heap.size ≤ q → A q := fun q h => by rw [← hAe]; exact Or.inr h
  have hS : va_S A s.heap s.heap [] := va_S.rf
  have hl := lv_entry ([.ref h]) (n := 2) (Nat.le_of_ble_eq_true rfl)
  rw [lg_entry_eq]
  generalize (lg_sl ([.ref h]) ++ List.replicate (2 - (lg_sl ([.ref h])).length) Slot.unset).toArray = ls at hl ⊢
  have hl : lv_has ls 2 [(0, .ref h)] := hl
  refine k_Q (fun Q hQ => ?_)
  have hg0 : gN C0 = gN C0 ∧ gE C0 = gE C0 := ⟨rfl, rfl⟩
  have B67 : ∀ (K7 : Int32 → CS → Option (Int32 × CS)) (hK7 : ∀ (v1 : Int32)  (C : CS)  (H : Heap) (locs : List Loc) (ls : Array Slot), K7 v1 C = some (r', C') → (gN C = gN C0 ∧ gE C = gE C0) → va_P D vwCl (cW cI cJ cO h xa ea0 pa0 C) H → va_D A (cW cI cJ cO h xa ea0 pa0 C) → va_S A s.heap H locs → lv_has ls 2 [(0, .ref h), (1, .int v1)] → W p l e (headSpec wsX3_gatherRunning ({ frames := 0, cells := 0, slots := 0, locals := 0 })).room s m ([.ref h] : List Value).toArray below meth c H locs (0) (0) Q (F0 m 7 ls [])), ∀ (v1 : Int32)  (C : CS)  (H : Heap) (locs : List Loc) (ls : Array Slot), f_X3_gatherRunning_67 K7 v1 C = some (r', C') → (gN C = gN C0 ∧ gE C = gE C0) → va_P D vwCl (cW cI cJ cO h xa ea0 pa0 C) H → va_D A (cW cI cJ cO h xa ea0 pa0 C) → va_S A s.heap H locs → lv_has ls 2 [(0, .ref h), (1, .int v1)] → W p l e (headSpec wsX3_gatherRunning ({ frames := 0, cells := 0, slots := 0, locals := 0 })).room s m ([.ref h] : List Value).toArray below meth c H locs (0) (0) Q (F0 m 67 ls []) := by
    intro K7 hK7
    intro v1  C  H locs ls hq hg  hP hD hS hl
    rw [f_X3_gatherRunning_67] at hq
    refine lv_iinc (v := v1 + 1) (lv' := [(1, .int (v1 + 1)), (0, .ref h)]) hx hb dX3_gatherRunning_67 hl (k := 1) rfl (by rfl) (by decide) rfl (fun ls hl => ?_)
    refine lv_goto (tgt := 7) hx hb dX3_gatherRunning_70 (by decide) ?_
    exact hK7 (v1 + 1) C  _ _ _ hq (by show (gN C = gN C0 ∧ gE C = gE C0); omega) hP hD hS (lv_sub hl [1, 0] rfl)
  have B7 : ∀  (k : Nat), ∀ (v1 : Int32)  (C : CS)  (H : Heap) (locs : List Loc) (ls : Array Slot), f_X3_gatherRunning_7  k v1 C = some (r', C') → (gN C = gN C0 ∧ gE C = gE C0) → va_P D vwCl (cW cI cJ cO h xa ea0 pa0 C) H → va_D A (cW cI cJ cO h xa ea0 pa0 C) → va_S A s.heap H locs → lv_has ls 2 [(0, .ref h), (1, .int v1)] → W p l e (headSpec wsX3_gatherRunning ({ frames := 0, cells := 0, slots := 0, locals := 0 })).room s m ([.ref h] : List Value).toArray below meth c H locs (0) (0) Q (F0 m 7 ls []) := by
    intro  k
    induction k with
    | zero =>
      intro v1  C  H locs ls hq hg  hP hD hS hl
      exact absurd hq (by rw [f_X3_gatherRunning_7]; exact k_non)
    | succ k ih =>
      intro v1  C  H locs ls hq hg  hP hD hS hl
      rw [f_X3_gatherRunning_7] at hq
      refine lv_iload_n hx hb dX3_gatherRunning_7 rfl (lv_at hl 1 rfl) ?_
      refine lv_aload_n hx hb dX3_gatherRunning_8 rfl (lv_at hl 0 rfl) ?_
      refine va_get (D := D) (ci := 3) (v := .int (C.1 12)) (C := RX3) (T := TX3) (N := 18) hx hb hts kin_X3_gatherRunning_X3 hown hK hP 0 rfl rfl 12 (by decide) (hts _ kw_X3_gatherRunning__fieldLink_RX3_102_ActHouse_actCount_I_) (fun _ h9 => h9) rfl dX3_gatherRunning_9 ?_
      refine lv_icmp_ge (tgt := 73) hx hb dX3_gatherRunning_12 (by decide) (fun c2 => ?_) (fun c2 => ?_)
      · skip
        rw [if_pos c2] at hq
        obtain ⟨e2, e3⟩ := k_so hq
        subst hQ
        have hP : va_P D vwCl (cW cI cJ cO h xa ea0 pa0 C) _ := hP
        have hD : va_D A (cW cI cJ cO h xa ea0 pa0 C) := hD
        have hgE := congrArg (fun X : CS => gN X) e3
        have hgE : gN C = gN C' := hgE
        have hhE := congrArg (fun X : CS => gE X) e3
        have hhE : gE C = gE C' := hhE
        refine W.widen (k := 0) (n := 0) (by decide) (by decide) ?_
        exact W.vret hx hb hr (fun t ht hW => ⟨⟨(cW cI cJ cO h xa ea0 pa0 C, [(cI, .int), (cO, .object RX0), (cJ, .long)]), rfl, ⟨(congrArg (fun X : CS => ((cW cI cJ cO h xa ea0 pa0 X, [(cI, .int), (cO, .object RX0), (cJ, .long)]) : va_W × List (ClassId × FieldType))) e3), by omega, by omega⟩, ⟨by rw [ht]; exact hP, va_K.moved hW.alike hK, hD⟩⟩, hS.F ht⟩) hS.2.2 dX3_gatherRunning_73
      · skip
        rw [if_neg c2] at hq
        refine lv_aload_n hx hb dX3_gatherRunning_15 rfl (lv_at hl 0 rfl) ?_
        refine va_get (D := D) (ci := 3) (v := .int (C.1 14)) (C := RX3) (T := TX3) (N := 18) hx hb hts kin_X3_gatherRunning_X3 hown hK hP 0 rfl rfl 14 (by decide) (hts _ kw_X3_gatherRunning__fieldLink_RX3_194_ActHouse_runningCount_I_) (fun _ h9 => h9) rfl dX3_gatherRunning_16 ?_
        refine lv_bipush (v := 36) hx hb dX3_gatherRunning_19 (by decide) ?_
        refine lv_icmp_ge (tgt := 73) hx hb dX3_gatherRunning_21 (by decide) (fun c3 => ?_) (fun c3 => ?_)
        · skip
          rw [if_pos c3] at hq
          obtain ⟨e2, e3⟩ := k_so hq
          subst hQ
          have hP : va_P D vwCl (cW cI cJ cO h xa ea0 pa0 C) _ := hP
          have hD : va_D A (cW cI cJ cO h xa ea0 pa0 C) := hD
          have hgE := congrArg (fun X : CS => gN X) e3
          have hgE : gN C = gN C' := hgE
          have hhE := congrArg (fun X : CS => gE X) e3
          have hhE : gE C = gE C' := hhE
          refine W.widen (k := 0) (n := 0) (by decide) (by decide) ?_
          exact W.vret hx hb hr (fun t ht hW => ⟨⟨(cW cI cJ cO h xa ea0 pa0 C, [(cI, .int), (cO, .object RX0), (cJ, .long)]), rfl, ⟨(congrArg (fun X : CS => ((cW cI cJ cO h xa ea0 pa0 X, [(cI, .int), (cO, .object RX0), (cJ, .long)]) : va_W × List (ClassId × FieldType))) e3), by omega, by omega⟩, ⟨by rw [ht]; exact hP, va_K.moved hW.alike hK, hD⟩⟩, hS.F ht⟩) hS.2.2 dX3_gatherRunning_73
        · skip
          rw [if_neg c3] at hq
          refine lv_aload_n hx hb dX3_gatherRunning_24 rfl (lv_at hl 0 rfl) ?_
          refine va_get (D := D) (ci := 3) (v := .ref (xa 5)) (C := RX3) (T := TX3) (N := 18) hx hb hts kin_X3_gatherRunning_X3 hown hK hP 0 rfl rfl 5 (by decide) (hts _ kw_X3_gatherRunning__fieldLink_RX3_27_ActHouse_acts_LActHouse_Act_) (fun _ h9 => h9) rfl dX3_gatherRunning_25 ?_
          refine lv_aload_n hx hb dX3_gatherRunning_28 rfl (lv_at hl 0 rfl) ?_
          refine va_get (D := D) (ci := 3) (v := .ref (xa 6)) (C := RX3) (T := TX3) (N := 18) hx hb hts kin_X3_gatherRunning_X3 hown hK hP 0 rfl rfl 6 (by decide) (hts _ kw_X3_gatherRunning__fieldLink_RX3_31_ActHouse_order_I_) (fun _ h9 => h9) rfl dX3_gatherRunning_29 ?_
          refine lv_iload_n hx hb dX3_gatherRunning_32 rfl (lv_at hl 1 rfl) ?_
          obtain ⟨b4, hq⟩ := k_if hq
          refine va_iald hx hb hK hP 7 0 (f := (C.2.1 6)) rfl rfl (k_in b4.1 b4.2) dX3_gatherRunning_33 ?_
          obtain ⟨b5, hq⟩ := k_if hq
          refine va_aldq hx hb hK hP 6 1 (f := cActs pa0 (gN C)) rfl rfl (k_in b5.1.1 b5.1.2) dX3_gatherRunning_34 ?_
          refine W.eq (g2 := F0 m 35 ls [.ref (pa0 (((C.2.1 6) v1.toNatClampNeg).toNatClampNeg) 0)]) (by rw [cActs_lt b5.2]; rfl) ?_
          refine va_get (D := D) (ci := 0) (v := .int (gP C (((C.2.1 6) v1.toNatClampNeg).toNatClampNeg) 12)) (C := RX0) (T := TX0) (N := 20) hx hb hts kin_X3_gatherRunning_X0 hown hK hP (16 + (7 * (((C.2.1 6) v1.toNatClampNeg).toNatClampNeg) + 0)) (cW_get (show ((C.2.1 6) v1.toNatClampNeg).toNatClampNeg < gN C from by omega) rfl) rfl 12 (by decide) (hts _ kw_X3_gatherRunning__fieldLink_RX3_117_ActHouse_Act_state_I_) (fun _ h9 => h9) rfl dX3_gatherRunning_35 ?_
          refine lv_iconst (v := 1) hx hb dX3_gatherRunning_38 (by decide) ?_
          refine lv_icmp_ne (tgt := 67) hx hb dX3_gatherRunning_39 (by decide) (fun c6 => ?_) (fun c6 => ?_)
          · skip
            rw [if_neg c6] at hq
            exact B67 (fun (v1 : Int32) (C : CS) => f_X3_gatherRunning_7  k v1 C) ih v1 C  _ _ _ hq (by show (gN C = gN C0 ∧ gE C = gE C0); omega) hP hD hS (lv_sub hl [0, 1] rfl)
          · skip
            rw [if_pos c6] at hq
            refine lv_aload_n hx hb dX3_gatherRunning_42 rfl (lv_at hl 0 rfl) ?_
            refine va_get (D := D) (ci := 3) (v := .ref (xa 8)) (C := RX3) (T := TX3) (N := 18) hx hb hts kin_X3_gatherRunning_X3 hown hK hP 0 rfl rfl 8 (by decide) (hts _ kw_X3_gatherRunning__fieldLink_RX3_37_ActHouse_running_I_) (fun _ h9 => h9) rfl dX3_gatherRunning_43 ?_
            refine lv_aload_n hx hb dX3_gatherRunning_46 rfl (lv_at hl 0 rfl) ?_
            refine va_get (D := D) (ci := 3) (v := .int (C.1 14)) (C := RX3) (T := TX3) (N := 18) hx hb hts kin_X3_gatherRunning_X3 hown hK hP 0 rfl rfl 14 (by decide) (hts _ kw_X3_gatherRunning__fieldLink_RX3_194_ActHouse_runningCount_I_) (fun _ h9 => h9) rfl dX3_gatherRunning_47 ?_
            refine lv_aload_n hx hb dX3_gatherRunning_50 rfl (lv_at hl 0 rfl) ?_
            refine va_get (D := D) (ci := 3) (v := .ref (xa 6)) (C := RX3) (T := TX3) (N := 18) hx hb hts kin_X3_gatherRunning_X3 hown hK hP 0 rfl rfl 6 (by decide) (hts _ kw_X3_gatherRunning__fieldLink_RX3_31_ActHouse_order_I_) (fun _ h9 => h9) rfl dX3_gatherRunning_51 ?_
            refine lv_iload_n hx hb dX3_gatherRunning_54 rfl (lv_at hl 1 rfl) ?_
            refine va_iald hx hb hK hP 7 0 (f := (C.2.1 6)) rfl rfl (k_in b4.1 b4.2) dX3_gatherRunning_55 ?_
            obtain ⟨b7, hq⟩ := k_if hq
            refine va_iast hx hb hK hP hD hS 9 0 (f := (C.2.1 8)) rfl rfl (x := ((C.2.1 6) v1.toNatClampNeg)) (k_in b7.1 b7.2) dX3_gatherRunning_56 (fun H locs hP hD hS => ?_)
            obtain ⟨C8, eC8, hg8, hh8, hq⟩ := k_lc (C := C) hq rfl rfl
            rw [cW_F8, ← eC8] at hP hD
            have hP : va_P D vwCl (cW cI cJ cO h xa ea0 pa0 C8) _ := hP
            have hD : va_D A (cW cI cJ cO h xa ea0 pa0 C8) := hD
            refine lv_aload_n hx hb dX3_gatherRunning_57 rfl (lv_at hl 0 rfl) ?_
            refine lv_dup hx hb dX3_gatherRunning_58 rfl ?_
            refine va_get (D := D) (ci := 3) (v := .int (C8.1 14)) (C := RX3) (T := TX3) (N := 18) hx hb hts kin_X3_gatherRunning_X3 hown hK hP 0 rfl rfl 14 (by decide) (hts _ kw_X3_gatherRunning__fieldLink_RX3_194_ActHouse_runningCount_I_) (fun _ h9 => h9) rfl dX3_gatherRunning_59 ?_
            refine lv_iconst (v := 1) hx hb dX3_gatherRunning_62 (by decide) ?_
            refine lv_iadd hx hb dX3_gatherRunning_63 ?_
            refine va_put (D := D) (ci := 3) (v := .int ((C8.1 14) + 1)) (ty := .int) (C := RX3) (T := TX3) (N := 18) hx hb hts kin_X3_gatherRunning_X3 tyX3 tyX3_ok nmX3 hown hK hP hD hS 0 (fs := hF xa C8) rfl rfl 14 (by decide) (hts _ kw_X3_gatherRunning__fieldLink_RX3_194_ActHouse_runningCount_I_) (fun _ h9 => h9) rfl (by decide +kernel) rfl rfl (Nat.le_of_ble_eq_true rfl) dX3_gatherRunning_64 (fun H locs hP hD hS => ?_)
            obtain ⟨C9, eC9, hg9, hh9, hq⟩ := k_lc (C := C8) hq rfl rfl
            rw [cW_I14, ← eC9] at hP hD
            have hP : va_P D vwCl (cW cI cJ cO h xa ea0 pa0 C9) _ := hP
            have hD : va_D A (cW cI cJ cO h xa ea0 pa0 C9) := hD
            exact B67 (fun (v1 : Int32) (C : CS) => f_X3_gatherRunning_7  k v1 C) ih v1 C9  _ _ _ hq (by show (gN C9 = gN C0 ∧ gE C9 = gE C0); omega) hP hD hS (lv_sub hl [0, 1] rfl)
  have hq := hf
  rw [f_X3_gatherRunning] at hq
  refine lv_aload_n hx hb dX3_gatherRunning_0 rfl (lv_at hl 0 rfl) ?_
  refine lv_iconst (v := 0) hx hb dX3_gatherRunning_1 (by decide) ?_
  refine va_put (D := D) (ci := 3) (v := .int 0) (ty := .int) (C := RX3) (T := TX3) (N := 18) hx hb hts kin_X3_gatherRunning_X3 tyX3 tyX3_ok nmX3 hown hK hP hD hS 0 (fs := hF xa C0) rfl rfl 14 (by decide) (hts _ kw_X3_gatherRunning__fieldLink_RX3_194_ActHouse_runningCount_I_) (fun _ h9 => h9) rfl (by decide +kernel) rfl rfl (Nat.le_of_ble_eq_true rfl) dX3_gatherRunning_2 (fun H locs hP hD hS => ?_)
  obtain ⟨C1, eC1, hg1, hh1, hq⟩ := k_lc (C := C0) hq rfl rfl
  rw [cW_I14, ← eC1] at hP hD
  have hP : va_P D vwCl (cW cI cJ cO h xa ea0 pa0 C1) _ := hP
  have hD : va_D A (cW cI cJ cO h xa ea0 pa0 C1) := hD
  refine lv_iconst (v := 0) hx hb dX3_gatherRunning_5 (by decide) ?_
  refine lv_istore_n (lv' := [(1, .int 0), (0, .ref h)]) hx hb dX3_gatherRunning_6 rfl hl (by decide) rfl (fun ls hl => ?_)
  exact B7  200 (0 : Int32) C1  _ _ _ hq (by show (gN C1 = gN C0 ∧ gE C1 = gE C0); omega) hP hD hS (lv_sub hl [1, 0] rfl)
set_option maxRecDepth 100000 in
theorem kw_X3_stepBegun__fieldLink_RX3_194_ActHouse_runningCount_I_ : (.fieldLink RX3 194 "ActHouse" "runningCount" "I" : Cond) ∈ wsX3_stepBegun := by decide +kernel
set_option maxRecDepth 100000 in
theorem kin_X3_stepBegun_X3 : ∀ w ∈ u_ws RX3 TX3 18, w ∈ wsX3_stepBegun := by decide +kernel
set_option maxRecDepth 100000 in
theorem kw_X3_stepBegun__fieldLink_RX3_37_ActHouse_running_I_ : (.fieldLink RX3 37 "ActHouse" "running" "[I" : Cond) ∈ wsX3_stepBegun := by decide +kernel
def f_X3_stepBegun_6  : Nat → Int32 → CS → Option (Int32 × CS)
  | 0, _, _ => none
  | k + 1, v1, C => (if (C.1 14) ≤ v1 then some ((0 : Int32), C) else (if 0 ≤ v1.toInt ∧ v1.toInt < 36 then (k_bind (f_X3_takeStep ((C.2.1 8) v1.toNatClampNeg) C) fun r4 C4 => f_X3_stepBegun_6  k (v1 + 1) C4) else none))
def f_X3_stepBegun  (C0 : CS) : Option (Int32 × CS) := (k_bind (f_X3_gatherRunning C0) fun r1 C1 => f_X3_stepBegun_6  200 (0 : Int32) C1)
set_option maxHeartbeats 4000000 in
set_option maxRecDepth 100000 in
theorem c_X3_stepBegun {l : Launch} {D : va_G} {hp : Heap} {cI cJ cO : ClassId} {h : Nat} {xa : Nat → Nat} {ea0 : Nat} {pa0 : Nat → Nat → Nat} {C0 C' : CS} { r' : Int32} (hg : gN C0 ≤ 80 ∧ gE C0 ≤ 1048576) (hf : f_X3_stepBegun  C0 = some (r', C')) : Met l yX3_stepBegun wsX3_stepBegun ({ frames := 5, cells := 7 * (80 - gN C0) + (1048576 - gE C0) / 256, slots := 108 * (80 - gN C0) + 2 * (1048576 - gE C0), locals := 134 }) (va_Pc [.ref h] (k_PreH D [(cI, .int), (cO, .object RX0), (cJ, .long)] (cW cI cJ cO h xa ea0 pa0 C0) hp)) (va_Qv (fun (u : va_W × List (ClassId × FieldType)) => ∃ (ea' : Nat) (pa' : Nat → Nat → Nat), u = (cW cI cJ cO h xa ea' pa' C', [(cI, .int), (cO, .object RX0), (cJ, .long)]) ∧ (gN C0 ≤ gN C' ∧ gN C' ≤ 80 ∧ gE C0 ≤ gE C' ∧ gE C' ≤ 1048576) ∧ ∀ n, n < gN C0 → pa' n = pa0 n) (k_BM D (va_A (cW cI cJ cO h xa ea0 pa0 C0) hp.size) hp (7 * (gN C' - gN C0) + (gE C' - gE C0) / 256) (108 * (gN C' - gN C0) + 2 * (gE C' - gE C0))) (va_A (cW cI cJ cO h xa ea0 pa0 C0) hp.size)) (7 * (80 - gN C0) + (1048576 - gE C0) / 256) (108 * (80 - gN C0) + 2 * (1048576 - gE C0)) (va_A (cW cI cJ cO h xa ea0 pa0 C0) hp.size) := by
  refine Met.ofW (cc := cX3_stepBegun) (maxL := 2) (ret := none) (by decide) rfl ?_
  intro p e s m args below meth c s₁ B hml hv
  obtain ⟨rfl, hsz, hP, hK, hD0⟩ := hv
  have hx := B.exec
  have hb := B.bytes
  have hr := B.returns
  have hts := atoms_spec (ws := wsX3_stepBegun) B.pre
  have hown : s.vm.findClass RX3 = some m.cls := findClass_of_methodNamed B.named
  have hlocks := B.notSynchronized
  have hsz : s.heap = hp := hsz
  subst hsz
  have hD := hD0.self (sz := s.heap.size)
  generalize hAe : va_A (cW cI cJ cO h xa ea0 pa0 C0) s.heap.size = A at hD ⊢
  have hA : ∀ q : Nat, s.heap.size ≤ q → A q := fun q h => by rw [← hAe]; exact Or.inr h
  have hS : va_S A s.heap s.heap [] := va_S.rf
  have hl := lv_entry ([.ref h]) (n := 2) (Nat.le_of_ble_eq_true rfl)
  rw [lg_entry_eq]
  generalize (lg_sl ([.ref h]) ++ List.replicate (2 - (lg_sl ([.ref h])).length) Slot.unset).toArray = ls at hl ⊢
  have hl : lv_has ls 2 [(0, .ref h)] := hl
  refine k_Q (fun Q hQ => ?_)
  have B6 : ∀  (k : Nat), ∀ (v1 : Int32)  (C : CS) (ea : Nat) (pa : Nat → Nat → Nat) (H : Heap) (locs : List Loc) (ls : Array Slot), f_X3_stepBegun_6  k v1 C = some (r', C') → (gN C0 ≤ gN C ∧ gN C ≤ 80 ∧ gE C0 ≤ gE C ∧ gE C ≤ 1048576) → (∀ n, n < gN C0 → pa n = pa0 n) → va_P D vwCl (cW cI cJ cO h xa ea pa C) H → va_D A (cW cI cJ cO h xa ea pa C) → va_S A s.heap H locs → lv_has ls 2 [(0, .ref h), (1, .int v1)] → W p l e (headSpec wsX3_stepBegun ({ frames := 5, cells := 7 * (80 - gN C0) + (1048576 - gE C0) / 256, slots := 108 * (80 - gN C0) + 2 * (1048576 - gE C0), locals := 134 })).room s m ([.ref h] : List Value).toArray below meth c H locs ((7 * (gN C - gN C0) + (gE C - gE C0) / 256)) ((108 * (gN C - gN C0) + 2 * (gE C - gE C0))) Q (F0 m 6 ls []) := by
    intro  k
    induction k with
    | zero =>
      intro v1  C ea pa H locs ls hq hg hpa  hP hD hS hl
      exact absurd hq (by rw [f_X3_stepBegun_6]; exact k_non)
    | succ k ih =>
      intro v1  C ea pa H locs ls hq hg hpa  hP hD hS hl
      rw [f_X3_stepBegun_6] at hq
      refine lv_iload_n hx hb dX3_stepBegun_6 rfl (lv_at hl 1 rfl) ?_
      refine lv_aload_n hx hb dX3_stepBegun_7 rfl (lv_at hl 0 rfl) ?_
      refine va_get (D := D) (ci := 3) (v := .int (C.1 14)) (C := RX3) (T := TX3) (N := 18) hx hb hts kin_X3_stepBegun_X3 hown hK hP 0 rfl rfl 14 (by decide) (hts _ kw_X3_stepBegun__fieldLink_RX3_194_ActHouse_runningCount_I_) (fun _ h9 => h9) rfl dX3_stepBegun_8 ?_
      refine lv_icmp_ge (tgt := 30) hx hb dX3_stepBegun_11 (by decide) (fun c2 => ?_) (fun c2 => ?_)
      · skip
        rw [if_pos c2] at hq
        obtain ⟨e2, e3⟩ := k_so hq
        subst hQ
        have hP : va_P D vwCl (cW cI cJ cO h xa ea pa C) _ := hP
        have hD : va_D A (cW cI cJ cO h xa ea pa C) := hD
        have hgE := congrArg (fun X : CS => gN X) e3
        have hgE : gN C = gN C' := hgE
        have hhE := congrArg (fun X : CS => gE X) e3
        have hhE : gE C = gE C' := hhE
        refine k_facts (fun hm1 hm2 hm3 => ?_)
        refine W.widen (k := 7 * (80 - gN C0) + (1048576 - gE C0) / 256) (n := 108 * (80 - gN C0) + 2 * (1048576 - gE C0)) (by omega) (by omega) ?_
        exact W.vret hx hb hr (fun t ht hW => ⟨⟨(cW cI cJ cO h xa ea pa C, [(cI, .int), (cO, .object RX0), (cJ, .long)]), rfl, ⟨ea, pa, (congrArg (fun X : CS => ((cW cI cJ cO h xa ea pa X, [(cI, .int), (cO, .object RX0), (cJ, .long)]) : va_W × List (ClassId × FieldType))) e3), (by show gN C0 ≤ gN C' ∧ gN C' ≤ 80 ∧ gE C0 ≤ gE C' ∧ gE C' ≤ 1048576; omega), hpa⟩, ⟨⟨by rw [ht]; exact hP, va_K.moved hW.alike hK, hD⟩, by rw [ht]; exact hm3, by rw [ht]; omega, by rw [ht]; omega⟩⟩, hS.F ht⟩) hS.2.2 dX3_stepBegun_30
      · skip
        rw [if_neg c2] at hq
        refine lv_aload_n hx hb dX3_stepBegun_14 rfl (lv_at hl 0 rfl) ?_
        refine lv_aload_n hx hb dX3_stepBegun_15 rfl (lv_at hl 0 rfl) ?_
        refine va_get (D := D) (ci := 3) (v := .ref (xa 8)) (C := RX3) (T := TX3) (N := 18) hx hb hts kin_X3_stepBegun_X3 hown hK hP 0 rfl rfl 8 (by decide) (hts _ kw_X3_stepBegun__fieldLink_RX3_37_ActHouse_running_I_) (fun _ h9 => h9) rfl dX3_stepBegun_16 ?_
        refine lv_iload_n hx hb dX3_stepBegun_19 rfl (lv_at hl 1 rfl) ?_
        obtain ⟨b3, hq⟩ := k_if hq
        refine va_iald hx hb hK hP 9 0 (f := (C.2.1 8)) rfl rfl (k_in b3.1 b3.2) dX3_stepBegun_20 ?_
        obtain ⟨r4, C4, h4, hq⟩ := k_bd hq
        have hFc := k_free hD hS hA
        refine k_facts (fun hn1 hn2 hn3 => ?_)
        refine va_callv (va_runV (As := [.int ((C.2.1 8) v1.toNatClampNeg)]) (rest := []) ⟨hx, hb, hml, hown, hts⟩ (c_X3_takeStep (l := l) (D := D) (cI := cI) (cJ := cJ) (cO := cO) (h := h) (xa := xa) (ea0 := ea) (pa0 := pa)  (hg := by show gN C ≤ 80 ∧ gE C ≤ 1048576; omega) (hf := h4)) (cwV 1 hts gX3_stepBegun_X3_takeStep rfl rfl rfl (by decide +kernel) ⟨Nat.le_of_ble_eq_true rfl, Nat.le_of_ble_eq_true rfl⟩) ⟨k_blindH, va_recv hK hP (ci := 3) (q0 := 0) rfl rfl, fun U hU hW => ⟨rfl, k_preH hU hW hP hK hD⟩⟩ rfl rfl hl.1 rfl (lv_room (Nat.le_of_ble_eq_true rfl)) dX3_stepBegun_21 ⟨by show (7 * (gN C - gN C0) + (gE C - gE C0) / 256) + (7 * (80 - gN C) + (1048576 - gE C) / 256) ≤ 7 * (80 - gN C0) + (1048576 - gE C0) / 256; omega, by show (108 * (gN C - gN C0) + 2 * (gE C - gE C0)) + (108 * (80 - gN C) + 2 * (1048576 - gE C)) ≤ 108 * (80 - gN C0) + 2 * (1048576 - gE C0); omega⟩) hS (fun q _ h => hFc q h) hFc (fun u t H1 locs ht hvm hw hB hz1 hk1 hS => ?_)
        obtain ⟨ea4, pa4, rfl, hg4, hp4⟩ := hw
        have hg4 : gN C ≤ gN C4 ∧ gN C4 ≤ 80 ∧ gE C ≤ gE C4 ∧ gE C4 ≤ 1048576 := hg4
        have hpa : ∀ n, n < gN C0 → pa4 n = pa0 n := fun n hn => (hp4 n (by show n < gN C; omega)).trans (hpa n hn)
        obtain ⟨hB, hz2, hz3, hz4⟩ := hB
        rw [ht] at hz2 hz3 hz4
        refine k_tight (k := (7 * (gN C4 - gN C0) + (gE C4 - gE C0) / 256)) (n := (108 * (gN C4 - gN C0) + 2 * (gE C4 - gE C0))) (by omega) (by rw [k_nS_tr hn3.1 hz2]; omega) ?_
        obtain ⟨hP1, hK1, hD1⟩ := hB
        rw [ht] at hP1
        have hP := hP1
        have hD := k_weak hD1 hFc
        generalize H1 = H at hP hS ⊢
        have hP : va_P D vwCl (cW cI cJ cO h xa ea4 pa4 C4) _ := hP
        have hD : va_D A (cW cI cJ cO h xa ea4 pa4 C4) := hD
        refine lv_iinc (v := v1 + 1) (lv' := [(1, .int (v1 + 1)), (0, .ref h)]) hx hb dX3_stepBegun_24 hl (k := 1) rfl (by rfl) (by decide) rfl (fun ls hl => ?_)
        refine lv_goto (tgt := 6) hx hb dX3_stepBegun_27 (by decide) ?_
        exact ih (v1 + 1) C4 ea4 pa4 _ _ _ hq (by show (gN C0 ≤ gN C4 ∧ gN C4 ≤ 80 ∧ gE C0 ≤ gE C4 ∧ gE C4 ≤ 1048576); omega) hpa hP hD hS (lv_sub hl [1, 0] rfl)
  refine W.widen (k := (7 * (gN C0 - gN C0) + (gE C0 - gE C0) / 256)) (n := (108 * (gN C0 - gN C0) + 2 * (gE C0 - gE C0))) (by omega) (by omega) ?_
  have hpa : ∀ n, n < gN C0 → pa0 n = pa0 n := fun _ _ => rfl
  have hq := hf
  rw [f_X3_stepBegun] at hq
  refine lv_aload_n hx hb dX3_stepBegun_0 rfl (lv_at hl 0 rfl) ?_
  obtain ⟨r1, C1, h1, hq⟩ := k_bd hq
  have hFc := k_free hD hS hA
  refine va_callv (va_runV (As := []) (rest := []) ⟨hx, hb, hml, hown, hts⟩ (c_X3_gatherRunning (l := l) (D := D) (cI := cI) (cJ := cJ) (cO := cO) (h := h) (xa := xa) (ea0 := ea0) (pa0 := pa0)  (hf := h1)) (cwV 0 hts gX3_stepBegun_X3_gatherRunning rfl rfl rfl (by decide +kernel) ⟨Nat.le_of_ble_eq_true rfl, Nat.le_of_ble_eq_true rfl⟩) ⟨k_blind, va_recv hK hP (ci := 3) (q0 := 0) rfl rfl, fun U hU hW => ⟨rfl, k_pre hU hW hP hK hD⟩⟩ rfl rfl hl.1 rfl (lv_room (Nat.le_of_ble_eq_true rfl)) dX3_stepBegun_1 ⟨by show (7 * (gN C0 - gN C0) + (gE C0 - gE C0) / 256) + 0 ≤ 7 * (80 - gN C0) + (1048576 - gE C0) / 256; omega, by show (108 * (gN C0 - gN C0) + 2 * (gE C0 - gE C0)) + 0 ≤ 108 * (80 - gN C0) + 2 * (1048576 - gE C0); omega⟩) hS (fun q _ h => hFc q h) hFc (fun u t H1 locs ht hvm hw hB hz1 hk1 hS => ?_)
  obtain ⟨rfl, hg1, hh1⟩ := hw
  have hg1 : gN C1 = gN C0 := hg1
  have hh1 : gE C1 = gE C0 := hh1
  refine W.widen (k := (7 * (gN C1 - gN C0) + (gE C1 - gE C0) / 256)) (n := (108 * (gN C1 - gN C0) + 2 * (gE C1 - gE C0))) (by omega) (by omega) ?_
  obtain ⟨hP1, hK1, hD1⟩ := hB
  rw [ht] at hP1
  have hP := hP1
  have hD := k_weak hD1 hFc
  generalize H1 = H at hP hS ⊢
  have hP : va_P D vwCl (cW cI cJ cO h xa ea0 pa0 C1) _ := hP
  have hD : va_D A (cW cI cJ cO h xa ea0 pa0 C1) := hD
  refine lv_iconst (v := 0) hx hb dX3_stepBegun_4 (by decide) ?_
  refine lv_istore_n (lv' := [(1, .int 0), (0, .ref h)]) hx hb dX3_stepBegun_5 rfl hl (by decide) rfl (fun ls hl => ?_)
  exact B6  200 (0 : Int32) C1 ea0 pa0 _ _ _ hq (by show (gN C0 ≤ gN C1 ∧ gN C1 ≤ 80 ∧ gE C0 ≤ gE C1 ∧ gE C1 ≤ 1048576); omega) hpa hP hD hS (lv_sub hl [1, 0] rfl)
