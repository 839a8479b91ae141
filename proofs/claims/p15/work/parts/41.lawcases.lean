set_option maxHeartbeats 4000000 in
set_option maxRecDepth 100000 in
theorem lc_0 {p : Program} {e : Env} {s : State} {m : MethodId} {below : List Frame} {meth : Method} {c : Code} {l : Launch} {b L : Nat} {xs : Nat → Int32} (X0 : lw_At p s m meth c b L xs) {D : va_G} {A : Nat → Prop} (hA : ∀ q : Nat, s.heap.size ≤ q → A q) (hAf : ∀ q : Nat, A q → s.heap.size ≤ q) {cI cJ cO cZ : ClassId} {h gm : Nat} {xa : Nat → Nat} {ea : Nat} {pa : Nat → Nat → Nat} {ad : Nat → Nat} {C : CS} {M : MS} {i : Int32} {H : Heap} {locs : List Loc} {ls : Array Slot} (hi : 0 ≤ i.toInt ∧ i.toInt + 4 ≤ L) (hL : L ≤ 2048) (hbd : lbd C M) (hK : va_K D vwCl [(cI, .int), (cO, .object RX0), (cJ, .long), (cZ, .boolean)] s) (hP : va_P D vwCl (cW cI cJ cO h xa ea pa C ++ mW cI cZ gm ad M) H) (hD : va_D A (cW cI cJ cO h xa ea pa C ++ mW cI cZ gm ad M)) (hS : va_S A s.heap H locs) (hl : lv_has ls 4 [(3, .int i), (2, .ref gm), (1, .ref h), (0, .ref b)]) {q1 q2 : Int32} {C1 : CS} {M1 : MS} (h1 : f_X3_program (xs (i + 1).toNatClampNeg) C = some (q1, C1)) (h2 : f_X4_program (xs (i + 1).toNatClampNeg) M = some (q2, M1)) (kk : ∀ (ea : Nat) (pa : Nat → Nat → Nat) (ad : Nat → Nat) (H : Heap) (locs : List Loc), va_P D vwCl (cW cI cJ cO h xa ea pa C1 ++ mW cI cZ gm ad M1) H → va_D A (cW cI cJ cO h xa ea pa C1 ++ mW cI cZ gm ad M1) → va_S A s.heap H locs → W p l e room_1 s m #[Value.ref b] below meth c H locs (49 + 7 * gN C1 + (gE C1 - 256) / 256 + (M1.2.2 - 4000) / 4000) (13528 + 108 * gN C1 + 2 * (gE C1 - 256) + 2 * (M1.2.2 - 4000)) (lw_Z below #[Value.ref b] s) (F0 m 516 ls [])) : W p l e room_1 s m #[Value.ref b] below meth c H locs (49 + 7 * gN C + (gE C - 256) / 256 + (M.2.2 - 4000) / 4000) (13528 + 108 * gN C + 2 * (gE C - 256) + 2 * (M.2.2 - 4000)) (lw_Z below #[Value.ref b] s) (F0 m 104 ls []) := by
  obtain ⟨hx, hb, hr, hml, hown, hts0, hX, hbl, hlocks, hgv⟩ := id X0
  have hts : ∀ w ∈ wsL_law, w.before #[Value.ref b] s = true := fun w h => hts0 w (wsL_law_in w h)
  have hown : s.vm.findClass RL = some m.cls := hown
  have hbA : ¬ A b := fun h => absurd (hAf b h) (Nat.not_le.mpr hbl)
  have hLi : (Int32.ofNat L).toInt = (L : Int) := nI_toInt (n := L) (by omega)
  obtain ⟨hb1, hb2, hb3, hb4, hb5⟩ := id hbd
  have hl1 : (1 : Int32).toInt = 1 := by decide
  have hij1 := k_add (x := i) (y := 1) (by omega) (by omega)
  have hl2 : (2 : Int32).toInt = 2 := by decide
  have hij2 := k_add (x := i) (y := 2) (by omega) (by omega)
  have hl3 : (3 : Int32).toInt = 3 := by decide
  have hij3 := k_add (x := i) (y := 3) (by omega) (by omega)
  refine lv_aload_n hx hb dL_law_104 rfl (lv_at hl 2 rfl) ?_
  refine lv_aload_n hx hb dL_law_105 rfl (lv_at hl 3 rfl) ?_
  refine lv_iload_n hx hb dL_law_106 rfl (lv_at hl 0 rfl) ?_
  refine lv_iconst (v := 1) hx hb dL_law_107 (by decide) ?_
  refine lv_iadd hx hb dL_law_108 ?_
  refine va_sld hx hb hX hbl hbA hS (k_in (by omega) (by omega)) dL_law_109 ?_
  have hPc := k_appL hP
  have hDc := k_appDL hD
  have hKc := hK.sub (tys' := [(cI, .int), (cO, .object RX0), (cJ, .long)]) [0, 1, 2] rfl
  have hFc := k_free hDc hS hA
  refine va_calli (va_runV (As := [.int (xs (i + 1).toNatClampNeg)]) (rest := []) ⟨hx, hb, hml, hown, hts⟩ (c_X3_program (l := l) (D := D) (cI := cI) (cJ := cJ) (cO := cO) (h := h) (xa := xa) (ea0 := ea) (pa0 := pa) (hf := h1)) (cwV 1 hts gL_law_X3_program rfl rfl rfl (by decide +kernel) ⟨Nat.le_of_ble_eq_true rfl, Nat.le_of_ble_eq_true rfl⟩) ⟨k_blind, va_recv hKc hPc (ci := 3) (q0 := 0) rfl rfl, fun U hU hW => ⟨rfl, k_pre hU hW hPc hKc hDc⟩⟩ rfl rfl hl.1 rfl (lv_room (Nat.le_of_ble_eq_true rfl)) dL_law_110 ⟨by show 49 + 7 * gN C + (gE C - 256) / 256 + (M.2.2 - 4000) / 4000 + (0) ≤ 600000; omega, by show 13528 + 108 * gN C + 2 * (gE C - 256) + 2 * (M.2.2 - 4000) + (0) ≤ 7302250; omega⟩) hS (fun q _ h => hFc q h) hFc (fun q1 u t H1 locs ht hvm hw hB hz1 hk1 hS => ?_)
  obtain ⟨rfl, rfl, hgx, hhx⟩ := hw
  refine W.widen (k := 49 + 7 * gN C1 + (gE C1 - 256) / 256 + (M.2.2 - 4000) / 4000) (n := 13528 + 108 * gN C1 + 2 * (gE C1 - 256) + 2 * (M.2.2 - 4000)) (by omega) (by omega) ?_
  obtain ⟨hP1, hK1, hD1⟩ := hB
  rw [ht] at hP1
  obtain ⟨hP, hD⟩ := k_joinL hP hD hFc hk1 hP1 hD1
  generalize H1 = H at hP hS ⊢
  refine lv_pop hx hb dL_law_113 rfl ?_
  refine lv_aload_n hx hb dL_law_114 rfl (lv_at hl 1 rfl) ?_
  refine lv_aload_n hx hb dL_law_115 rfl (lv_at hl 3 rfl) ?_
  refine lv_iload_n hx hb dL_law_116 rfl (lv_at hl 0 rfl) ?_
  refine lv_iconst (v := 1) hx hb dL_law_117 (by decide) ?_
  refine lv_iadd hx hb dL_law_118 ?_
  refine va_sld hx hb hX hbl hbA hS (k_in (by omega) (by omega)) dL_law_119 ?_
  have hPc := k_appR hP
  have hDc := k_appDR hD
  have hKc := hK.sub (tys' := [(cI, .int), (cZ, .boolean)]) [0, 3] rfl
  have hFc := k_free hDc hS hA
  refine va_calli (va_runV (As := [.int (xs (i + 1).toNatClampNeg)]) (rest := []) ⟨hx, hb, hml, hown, hts⟩ (c_X4_program (l := l) (D := D) (cI := cI) (cZ := cZ) (h := gm) (ad := ad) (hf := h2)) (cwV 1 hts gL_law_X4_program rfl rfl rfl (by decide +kernel) ⟨Nat.le_of_ble_eq_true rfl, Nat.le_of_ble_eq_true rfl⟩) ⟨k_blind, va_recv hKc hPc (ci := 4) (q0 := 0) rfl rfl, fun U hU hW => ⟨rfl, k_pre hU hW hPc hKc hDc⟩⟩ rfl rfl hl.1 rfl (lv_room (Nat.le_of_ble_eq_true rfl)) dL_law_120 ⟨by show 49 + 7 * gN C1 + (gE C1 - 256) / 256 + (M.2.2 - 4000) / 4000 + (0) ≤ 600000; omega, by show 13528 + 108 * gN C1 + 2 * (gE C1 - 256) + 2 * (M.2.2 - 4000) + (0) ≤ 7302250; omega⟩) hS (fun q _ h => hFc q h) hFc (fun q2 u t H1 locs ht hvm hw hB hz1 hk1 hS => ?_)
  obtain ⟨rfl, rfl, hgm⟩ := hw
  refine W.widen (k := 49 + 7 * gN C1 + (gE C1 - 256) / 256 + (M1.2.2 - 4000) / 4000) (n := 13528 + 108 * gN C1 + 2 * (gE C1 - 256) + 2 * (M1.2.2 - 4000)) (by omega) (by omega) ?_
  obtain ⟨hP1, hK1, hD1⟩ := hB
  rw [ht] at hP1
  obtain ⟨hP, hD⟩ := k_joinR hP hD hFc hk1 hP1 hD1
  generalize H1 = H at hP hS ⊢
  refine lv_pop hx hb dL_law_123 rfl ?_
  refine lv_goto (tgt := 516) hx hb dL_law_124 (by decide) ?_
  exact kk ea pa ad _ _ hP hD hS
set_option maxHeartbeats 4000000 in
set_option maxRecDepth 100000 in
theorem lc_1 {p : Program} {e : Env} {s : State} {m : MethodId} {below : List Frame} {meth : Method} {c : Code} {l : Launch} {b L : Nat} {xs : Nat → Int32} (X0 : lw_At p s m meth c b L xs) {D : va_G} {A : Nat → Prop} (hA : ∀ q : Nat, s.heap.size ≤ q → A q) (hAf : ∀ q : Nat, A q → s.heap.size ≤ q) {cI cJ cO cZ : ClassId} {h gm : Nat} {xa : Nat → Nat} {ea : Nat} {pa : Nat → Nat → Nat} {ad : Nat → Nat} {C : CS} {M : MS} {i : Int32} {H : Heap} {locs : List Loc} {ls : Array Slot} (hi : 0 ≤ i.toInt ∧ i.toInt + 4 ≤ L) (hL : L ≤ 2048) (hbd : lbd C M) (hK : va_K D vwCl [(cI, .int), (cO, .object RX0), (cJ, .long), (cZ, .boolean)] s) (hP : va_P D vwCl (cW cI cJ cO h xa ea pa C ++ mW cI cZ gm ad M) H) (hD : va_D A (cW cI cJ cO h xa ea pa C ++ mW cI cZ gm ad M)) (hS : va_S A s.heap H locs) (hl : lv_has ls 4 [(3, .int i), (2, .ref gm), (1, .ref h), (0, .ref b)]) {q1 q2 : Int32} {C1 : CS} {M1 : MS} (h1 : f_X3_step (xs (i + 1).toNatClampNeg) (xs (i + 2).toNatClampNeg) C = some (q1, C1)) (h2 : f_X4_step (xs (i + 1).toNatClampNeg) (xs (i + 2).toNatClampNeg) M = some (q2, M1)) (kk : ∀ (ea : Nat) (pa : Nat → Nat → Nat) (ad : Nat → Nat) (H : Heap) (locs : List Loc), va_P D vwCl (cW cI cJ cO h xa ea pa C1 ++ mW cI cZ gm ad M1) H → va_D A (cW cI cJ cO h xa ea pa C1 ++ mW cI cZ gm ad M1) → va_S A s.heap H locs → W p l e room_1 s m #[Value.ref b] below meth c H locs (49 + 7 * gN C1 + (gE C1 - 256) / 256 + (M1.2.2 - 4000) / 4000) (13528 + 108 * gN C1 + 2 * (gE C1 - 256) + 2 * (M1.2.2 - 4000)) (lw_Z below #[Value.ref b] s) (F0 m 516 ls [])) : W p l e room_1 s m #[Value.ref b] below meth c H locs (49 + 7 * gN C + (gE C - 256) / 256 + (M.2.2 - 4000) / 4000) (13528 + 108 * gN C + 2 * (gE C - 256) + 2 * (M.2.2 - 4000)) (lw_Z below #[Value.ref b] s) (F0 m 127 ls []) := by
  obtain ⟨hx, hb, hr, hml, hown, hts0, hX, hbl, hlocks, hgv⟩ := id X0
  have hts : ∀ w ∈ wsL_law, w.before #[Value.ref b] s = true := fun w h => hts0 w (wsL_law_in w h)
  have hown : s.vm.findClass RL = some m.cls := hown
  have hbA : ¬ A b := fun h => absurd (hAf b h) (Nat.not_le.mpr hbl)
  have hLi : (Int32.ofNat L).toInt = (L : Int) := nI_toInt (n := L) (by omega)
  obtain ⟨hb1, hb2, hb3, hb4, hb5⟩ := id hbd
  have hl1 : (1 : Int32).toInt = 1 := by decide
  have hij1 := k_add (x := i) (y := 1) (by omega) (by omega)
  have hl2 : (2 : Int32).toInt = 2 := by decide
  have hij2 := k_add (x := i) (y := 2) (by omega) (by omega)
  have hl3 : (3 : Int32).toInt = 3 := by decide
  have hij3 := k_add (x := i) (y := 3) (by omega) (by omega)
  refine lv_aload_n hx hb dL_law_127 rfl (lv_at hl 2 rfl) ?_
  refine lv_aload_n hx hb dL_law_128 rfl (lv_at hl 3 rfl) ?_
  refine lv_iload_n hx hb dL_law_129 rfl (lv_at hl 0 rfl) ?_
  refine lv_iconst (v := 1) hx hb dL_law_130 (by decide) ?_
  refine lv_iadd hx hb dL_law_131 ?_
  refine va_sld hx hb hX hbl hbA hS (k_in (by omega) (by omega)) dL_law_132 ?_
  refine lv_aload_n hx hb dL_law_133 rfl (lv_at hl 3 rfl) ?_
  refine lv_iload_n hx hb dL_law_134 rfl (lv_at hl 0 rfl) ?_
  refine lv_iconst (v := 2) hx hb dL_law_135 (by decide) ?_
  refine lv_iadd hx hb dL_law_136 ?_
  refine va_sld hx hb hX hbl hbA hS (k_in (by omega) (by omega)) dL_law_137 ?_
  have hPc := k_appL hP
  have hDc := k_appDL hD
  have hKc := hK.sub (tys' := [(cI, .int), (cO, .object RX0), (cJ, .long)]) [0, 1, 2] rfl
  have hFc := k_free hDc hS hA
  refine va_calli (va_runV (As := [.int (xs (i + 1).toNatClampNeg), .int (xs (i + 2).toNatClampNeg)]) (rest := []) ⟨hx, hb, hml, hown, hts⟩ (c_X3_step (l := l) (D := D) (cI := cI) (cJ := cJ) (cO := cO) (h := h) (xa := xa) (ea0 := ea) (pa0 := pa) (hf := h1)) (cwV 2 hts gL_law_X3_step rfl rfl rfl (by decide +kernel) ⟨Nat.le_of_ble_eq_true rfl, Nat.le_of_ble_eq_true rfl⟩) ⟨k_blind, va_recv hKc hPc (ci := 3) (q0 := 0) rfl rfl, fun U hU hW => ⟨rfl, k_pre hU hW hPc hKc hDc⟩⟩ rfl rfl hl.1 rfl (lv_room (Nat.le_of_ble_eq_true rfl)) dL_law_138 ⟨by show 49 + 7 * gN C + (gE C - 256) / 256 + (M.2.2 - 4000) / 4000 + (0) ≤ 600000; omega, by show 13528 + 108 * gN C + 2 * (gE C - 256) + 2 * (M.2.2 - 4000) + (0) ≤ 7302250; omega⟩) hS (fun q _ h => hFc q h) hFc (fun q1 u t H1 locs ht hvm hw hB hz1 hk1 hS => ?_)
  obtain ⟨rfl, rfl, hgx, hhx⟩ := hw
  refine W.widen (k := 49 + 7 * gN C1 + (gE C1 - 256) / 256 + (M.2.2 - 4000) / 4000) (n := 13528 + 108 * gN C1 + 2 * (gE C1 - 256) + 2 * (M.2.2 - 4000)) (by omega) (by omega) ?_
  obtain ⟨hP1, hK1, hD1⟩ := hB
  rw [ht] at hP1
  obtain ⟨hP, hD⟩ := k_joinL hP hD hFc hk1 hP1 hD1
  generalize H1 = H at hP hS ⊢
  refine lv_pop hx hb dL_law_141 rfl ?_
  refine lv_aload_n hx hb dL_law_142 rfl (lv_at hl 1 rfl) ?_
  refine lv_aload_n hx hb dL_law_143 rfl (lv_at hl 3 rfl) ?_
  refine lv_iload_n hx hb dL_law_144 rfl (lv_at hl 0 rfl) ?_
  refine lv_iconst (v := 1) hx hb dL_law_145 (by decide) ?_
  refine lv_iadd hx hb dL_law_146 ?_
  refine va_sld hx hb hX hbl hbA hS (k_in (by omega) (by omega)) dL_law_147 ?_
  refine lv_aload_n hx hb dL_law_148 rfl (lv_at hl 3 rfl) ?_
  refine lv_iload_n hx hb dL_law_149 rfl (lv_at hl 0 rfl) ?_
  refine lv_iconst (v := 2) hx hb dL_law_150 (by decide) ?_
  refine lv_iadd hx hb dL_law_151 ?_
  refine va_sld hx hb hX hbl hbA hS (k_in (by omega) (by omega)) dL_law_152 ?_
  have hPc := k_appR hP
  have hDc := k_appDR hD
  have hKc := hK.sub (tys' := [(cI, .int), (cZ, .boolean)]) [0, 3] rfl
  have hFc := k_free hDc hS hA
  refine va_calli (va_runV (As := [.int (xs (i + 1).toNatClampNeg), .int (xs (i + 2).toNatClampNeg)]) (rest := []) ⟨hx, hb, hml, hown, hts⟩ (c_X4_step (l := l) (D := D) (cI := cI) (cZ := cZ) (h := gm) (ad := ad) (hf := h2)) (cwV 2 hts gL_law_X4_step rfl rfl rfl (by decide +kernel) ⟨Nat.le_of_ble_eq_true rfl, Nat.le_of_ble_eq_true rfl⟩) ⟨k_blind, va_recv hKc hPc (ci := 4) (q0 := 0) rfl rfl, fun U hU hW => ⟨rfl, k_pre hU hW hPc hKc hDc⟩⟩ rfl rfl hl.1 rfl (lv_room (Nat.le_of_ble_eq_true rfl)) dL_law_153 ⟨by show 49 + 7 * gN C1 + (gE C1 - 256) / 256 + (M.2.2 - 4000) / 4000 + (0) ≤ 600000; omega, by show 13528 + 108 * gN C1 + 2 * (gE C1 - 256) + 2 * (M.2.2 - 4000) + (0) ≤ 7302250; omega⟩) hS (fun q _ h => hFc q h) hFc (fun q2 u t H1 locs ht hvm hw hB hz1 hk1 hS => ?_)
  obtain ⟨rfl, rfl, hgm⟩ := hw
  refine W.widen (k := 49 + 7 * gN C1 + (gE C1 - 256) / 256 + (M1.2.2 - 4000) / 4000) (n := 13528 + 108 * gN C1 + 2 * (gE C1 - 256) + 2 * (M1.2.2 - 4000)) (by omega) (by omega) ?_
  obtain ⟨hP1, hK1, hD1⟩ := hB
  rw [ht] at hP1
  obtain ⟨hP, hD⟩ := k_joinR hP hD hFc hk1 hP1 hD1
  generalize H1 = H at hP hS ⊢
  refine lv_pop hx hb dL_law_156 rfl ?_
  refine lv_goto (tgt := 516) hx hb dL_law_157 (by decide) ?_
  exact kk ea pa ad _ _ hP hD hS
set_option maxHeartbeats 4000000 in
set_option maxRecDepth 100000 in
theorem lc_2 {p : Program} {e : Env} {s : State} {m : MethodId} {below : List Frame} {meth : Method} {c : Code} {l : Launch} {b L : Nat} {xs : Nat → Int32} (X0 : lw_At p s m meth c b L xs) {D : va_G} {A : Nat → Prop} (hA : ∀ q : Nat, s.heap.size ≤ q → A q) (hAf : ∀ q : Nat, A q → s.heap.size ≤ q) {cI cJ cO cZ : ClassId} {h gm : Nat} {xa : Nat → Nat} {ea : Nat} {pa : Nat → Nat → Nat} {ad : Nat → Nat} {C : CS} {M : MS} {i : Int32} {H : Heap} {locs : List Loc} {ls : Array Slot} (hi : 0 ≤ i.toInt ∧ i.toInt + 4 ≤ L) (hL : L ≤ 2048) (hbd : lbd C M) (hK : va_K D vwCl [(cI, .int), (cO, .object RX0), (cJ, .long), (cZ, .boolean)] s) (hP : va_P D vwCl (cW cI cJ cO h xa ea pa C ++ mW cI cZ gm ad M) H) (hD : va_D A (cW cI cJ cO h xa ea pa C ++ mW cI cZ gm ad M)) (hS : va_S A s.heap H locs) (hl : lv_has ls 4 [(3, .int i), (2, .ref gm), (1, .ref h), (0, .ref b)]) {q1 q2 : Int32} {C1 : CS} {M1 : MS} (h1 : f_X3_act (xs (i + 1).toNatClampNeg) (xs (i + 2).toNatClampNeg) (xs (i + 3).toNatClampNeg) C = some (q1, C1)) (h2 : f_X4_act (xs (i + 1).toNatClampNeg) (xs (i + 2).toNatClampNeg) (xs (i + 3).toNatClampNeg) M = some (q2, M1)) (kk : ∀ (ea : Nat) (pa : Nat → Nat → Nat) (ad : Nat → Nat) (H : Heap) (locs : List Loc), va_P D vwCl (cW cI cJ cO h xa ea pa C1 ++ mW cI cZ gm ad M1) H → va_D A (cW cI cJ cO h xa ea pa C1 ++ mW cI cZ gm ad M1) → va_S A s.heap H locs → W p l e room_1 s m #[Value.ref b] below meth c H locs (49 + 7 * gN C1 + (gE C1 - 256) / 256 + (M1.2.2 - 4000) / 4000) (13528 + 108 * gN C1 + 2 * (gE C1 - 256) + 2 * (M1.2.2 - 4000)) (lw_Z below #[Value.ref b] s) (F0 m 516 ls [])) : W p l e room_1 s m #[Value.ref b] below meth c H locs (49 + 7 * gN C + (gE C - 256) / 256 + (M.2.2 - 4000) / 4000) (13528 + 108 * gN C + 2 * (gE C - 256) + 2 * (M.2.2 - 4000)) (lw_Z below #[Value.ref b] s) (F0 m 160 ls []) := by
  obtain ⟨hx, hb, hr, hml, hown, hts0, hX, hbl, hlocks, hgv⟩ := id X0
  have hts : ∀ w ∈ wsL_law, w.before #[Value.ref b] s = true := fun w h => hts0 w (wsL_law_in w h)
  have hown : s.vm.findClass RL = some m.cls := hown
  have hbA : ¬ A b := fun h => absurd (hAf b h) (Nat.not_le.mpr hbl)
  have hLi : (Int32.ofNat L).toInt = (L : Int) := nI_toInt (n := L) (by omega)
  obtain ⟨hb1, hb2, hb3, hb4, hb5⟩ := id hbd
  have hl1 : (1 : Int32).toInt = 1 := by decide
  have hij1 := k_add (x := i) (y := 1) (by omega) (by omega)
  have hl2 : (2 : Int32).toInt = 2 := by decide
  have hij2 := k_add (x := i) (y := 2) (by omega) (by omega)
  have hl3 : (3 : Int32).toInt = 3 := by decide
  have hij3 := k_add (x := i) (y := 3) (by omega) (by omega)
  refine lv_aload_n hx hb dL_law_160 rfl (lv_at hl 2 rfl) ?_
  refine lv_aload_n hx hb dL_law_161 rfl (lv_at hl 3 rfl) ?_
  refine lv_iload_n hx hb dL_law_162 rfl (lv_at hl 0 rfl) ?_
  refine lv_iconst (v := 1) hx hb dL_law_163 (by decide) ?_
  refine lv_iadd hx hb dL_law_164 ?_
  refine va_sld hx hb hX hbl hbA hS (k_in (by omega) (by omega)) dL_law_165 ?_
  refine lv_aload_n hx hb dL_law_166 rfl (lv_at hl 3 rfl) ?_
  refine lv_iload_n hx hb dL_law_167 rfl (lv_at hl 0 rfl) ?_
  refine lv_iconst (v := 2) hx hb dL_law_168 (by decide) ?_
  refine lv_iadd hx hb dL_law_169 ?_
  refine va_sld hx hb hX hbl hbA hS (k_in (by omega) (by omega)) dL_law_170 ?_
  refine lv_aload_n hx hb dL_law_171 rfl (lv_at hl 3 rfl) ?_
  refine lv_iload_n hx hb dL_law_172 rfl (lv_at hl 0 rfl) ?_
  refine lv_iconst (v := 3) hx hb dL_law_173 (by decide) ?_
  refine lv_iadd hx hb dL_law_174 ?_
  refine va_sld hx hb hX hbl hbA hS (k_in (by omega) (by omega)) dL_law_175 ?_
  have hPc := k_appL hP
  have hDc := k_appDL hD
  have hKc := hK.sub (tys' := [(cI, .int), (cO, .object RX0), (cJ, .long)]) [0, 1, 2] rfl
  have hFc := k_free hDc hS hA
  refine k_facts (fun hn1 hn2 hn3 => ?_)
  refine va_calli (va_runV (As := [.int (xs (i + 1).toNatClampNeg), .int (xs (i + 2).toNatClampNeg), .int (xs (i + 3).toNatClampNeg)]) (rest := []) ⟨hx, hb, hml, hown, hts⟩ (c_X3_act (l := l) (D := D) (cI := cI) (cJ := cJ) (cO := cO) (h := h) (xa := xa) (ea0 := ea) (pa0 := pa) (hg := ⟨by omega, by omega⟩) (hf := h1)) (cwV 3 hts gL_law_X3_act rfl rfl rfl (by decide +kernel) ⟨Nat.le_of_ble_eq_true rfl, Nat.le_of_ble_eq_true rfl⟩) ⟨k_blindH, va_recv hKc hPc (ci := 3) (q0 := 0) rfl rfl, fun U hU hW => ⟨rfl, k_preH hU hW hPc hKc hDc⟩⟩ rfl rfl hl.1 rfl (lv_room (Nat.le_of_ble_eq_true rfl)) dL_law_176 ⟨by show 49 + 7 * gN C + (gE C - 256) / 256 + (M.2.2 - 4000) / 4000 + (7 * (80 - gN C) + (1048576 - gE C) / 256) ≤ 600000; omega, by show 13528 + 108 * gN C + 2 * (gE C - 256) + 2 * (M.2.2 - 4000) + (108 * (80 - gN C) + 2 * (1048576 - gE C)) ≤ 7302250; omega⟩) hS (fun q _ h => hFc q h) hFc (fun q1 u t H1 locs ht hvm hw hB hz1 hk1 hS => ?_)
  obtain ⟨ea1, pa1, rfl, rfl, hgx, -⟩ := hw
  obtain ⟨hB, hz2, hz3, hz4⟩ := hB
  rw [ht] at hz2 hz3 hz4
  refine k_tight (k := 49 + 7 * gN C1 + (gE C1 - 256) / 256 + (M.2.2 - 4000) / 4000) (n := 13528 + 108 * gN C1 + 2 * (gE C1 - 256) + 2 * (M.2.2 - 4000)) (by omega) (by rw [k_nS_tr hn3.1 hz2]; omega) ?_
  obtain ⟨hP1, hK1, hD1⟩ := hB
  rw [ht] at hP1
  obtain ⟨hP, hD⟩ := k_joinL hP hD hFc hk1 hP1 hD1
  generalize H1 = H at hP hS ⊢
  refine lv_pop hx hb dL_law_179 rfl ?_
  refine lv_aload_n hx hb dL_law_180 rfl (lv_at hl 1 rfl) ?_
  refine lv_aload_n hx hb dL_law_181 rfl (lv_at hl 3 rfl) ?_
  refine lv_iload_n hx hb dL_law_182 rfl (lv_at hl 0 rfl) ?_
  refine lv_iconst (v := 1) hx hb dL_law_183 (by decide) ?_
  refine lv_iadd hx hb dL_law_184 ?_
  refine va_sld hx hb hX hbl hbA hS (k_in (by omega) (by omega)) dL_law_185 ?_
  refine lv_aload_n hx hb dL_law_186 rfl (lv_at hl 3 rfl) ?_
  refine lv_iload_n hx hb dL_law_187 rfl (lv_at hl 0 rfl) ?_
  refine lv_iconst (v := 2) hx hb dL_law_188 (by decide) ?_
  refine lv_iadd hx hb dL_law_189 ?_
  refine va_sld hx hb hX hbl hbA hS (k_in (by omega) (by omega)) dL_law_190 ?_
  refine lv_aload_n hx hb dL_law_191 rfl (lv_at hl 3 rfl) ?_
  refine lv_iload_n hx hb dL_law_192 rfl (lv_at hl 0 rfl) ?_
  refine lv_iconst (v := 3) hx hb dL_law_193 (by decide) ?_
  refine lv_iadd hx hb dL_law_194 ?_
  refine va_sld hx hb hX hbl hbA hS (k_in (by omega) (by omega)) dL_law_195 ?_
  have hPc := k_appR hP
  have hDc := k_appDR hD
  have hKc := hK.sub (tys' := [(cI, .int), (cZ, .boolean)]) [0, 3] rfl
  have hFc := k_free hDc hS hA
  refine va_calli (va_runV (As := [.int (xs (i + 1).toNatClampNeg), .int (xs (i + 2).toNatClampNeg), .int (xs (i + 3).toNatClampNeg)]) (rest := []) ⟨hx, hb, hml, hown, hts⟩ (c_X4_act (l := l) (D := D) (cI := cI) (cZ := cZ) (h := gm) (ad := ad) (hf := h2)) (cwV 3 hts gL_law_X4_act rfl rfl rfl (by decide +kernel) ⟨Nat.le_of_ble_eq_true rfl, Nat.le_of_ble_eq_true rfl⟩) ⟨k_blind, va_recv hKc hPc (ci := 4) (q0 := 0) rfl rfl, fun U hU hW => ⟨rfl, k_pre hU hW hPc hKc hDc⟩⟩ rfl rfl hl.1 rfl (lv_room (Nat.le_of_ble_eq_true rfl)) dL_law_196 ⟨by show 49 + 7 * gN C1 + (gE C1 - 256) / 256 + (M.2.2 - 4000) / 4000 + (0) ≤ 600000; omega, by show 13528 + 108 * gN C1 + 2 * (gE C1 - 256) + 2 * (M.2.2 - 4000) + (0) ≤ 7302250; omega⟩) hS (fun q _ h => hFc q h) hFc (fun q2 u t H1 locs ht hvm hw hB hz1 hk1 hS => ?_)
  obtain ⟨rfl, rfl, hgm⟩ := hw
  refine W.widen (k := 49 + 7 * gN C1 + (gE C1 - 256) / 256 + (M1.2.2 - 4000) / 4000) (n := 13528 + 108 * gN C1 + 2 * (gE C1 - 256) + 2 * (M1.2.2 - 4000)) (by omega) (by omega) ?_
  obtain ⟨hP1, hK1, hD1⟩ := hB
  rw [ht] at hP1
  obtain ⟨hP, hD⟩ := k_joinR hP hD hFc hk1 hP1 hD1
  generalize H1 = H at hP hS ⊢
  refine lv_pop hx hb dL_law_199 rfl ?_
  refine lv_goto (tgt := 516) hx hb dL_law_200 (by decide) ?_
  exact kk ea1 pa1 ad _ _ hP hD hS
set_option maxHeartbeats 4000000 in
set_option maxRecDepth 100000 in
theorem lc_3 {p : Program} {e : Env} {s : State} {m : MethodId} {below : List Frame} {meth : Method} {c : Code} {l : Launch} {b L : Nat} {xs : Nat → Int32} (X0 : lw_At p s m meth c b L xs) {D : va_G} {A : Nat → Prop} (hA : ∀ q : Nat, s.heap.size ≤ q → A q) (hAf : ∀ q : Nat, A q → s.heap.size ≤ q) {cI cJ cO cZ : ClassId} {h gm : Nat} {xa : Nat → Nat} {ea : Nat} {pa : Nat → Nat → Nat} {ad : Nat → Nat} {C : CS} {M : MS} {i : Int32} {H : Heap} {locs : List Loc} {ls : Array Slot} (hi : 0 ≤ i.toInt ∧ i.toInt + 4 ≤ L) (hL : L ≤ 2048) (hbd : lbd C M) (hK : va_K D vwCl [(cI, .int), (cO, .object RX0), (cJ, .long), (cZ, .boolean)] s) (hP : va_P D vwCl (cW cI cJ cO h xa ea pa C ++ mW cI cZ gm ad M) H) (hD : va_D A (cW cI cJ cO h xa ea pa C ++ mW cI cZ gm ad M)) (hS : va_S A s.heap H locs) (hl : lv_has ls 4 [(3, .int i), (2, .ref gm), (1, .ref h), (0, .ref b)]) {q1 q2 : Int32} {C1 : CS} {M1 : MS} (h1 : f_X3_limit (xs (i + 1).toNatClampNeg) (xs (i + 2).toNatClampNeg) C = some (q1, C1)) (h2 : f_X4_limit (xs (i + 1).toNatClampNeg) (xs (i + 2).toNatClampNeg) M = some (q2, M1)) (kk : ∀ (ea : Nat) (pa : Nat → Nat → Nat) (ad : Nat → Nat) (H : Heap) (locs : List Loc), va_P D vwCl (cW cI cJ cO h xa ea pa C1 ++ mW cI cZ gm ad M1) H → va_D A (cW cI cJ cO h xa ea pa C1 ++ mW cI cZ gm ad M1) → va_S A s.heap H locs → W p l e room_1 s m #[Value.ref b] below meth c H locs (49 + 7 * gN C1 + (gE C1 - 256) / 256 + (M1.2.2 - 4000) / 4000) (13528 + 108 * gN C1 + 2 * (gE C1 - 256) + 2 * (M1.2.2 - 4000)) (lw_Z below #[Value.ref b] s) (F0 m 516 ls [])) : W p l e room_1 s m #[Value.ref b] below meth c H locs (49 + 7 * gN C + (gE C - 256) / 256 + (M.2.2 - 4000) / 4000) (13528 + 108 * gN C + 2 * (gE C - 256) + 2 * (M.2.2 - 4000)) (lw_Z below #[Value.ref b] s) (F0 m 203 ls []) := by
  obtain ⟨hx, hb, hr, hml, hown, hts0, hX, hbl, hlocks, hgv⟩ := id X0
  have hts : ∀ w ∈ wsL_law, w.before #[Value.ref b] s = true := fun w h => hts0 w (wsL_law_in w h)
  have hown : s.vm.findClass RL = some m.cls := hown
  have hbA : ¬ A b := fun h => absurd (hAf b h) (Nat.not_le.mpr hbl)
  have hLi : (Int32.ofNat L).toInt = (L : Int) := nI_toInt (n := L) (by omega)
  obtain ⟨hb1, hb2, hb3, hb4, hb5⟩ := id hbd
  have hl1 : (1 : Int32).toInt = 1 := by decide
  have hij1 := k_add (x := i) (y := 1) (by omega) (by omega)
  have hl2 : (2 : Int32).toInt = 2 := by decide
  have hij2 := k_add (x := i) (y := 2) (by omega) (by omega)
  have hl3 : (3 : Int32).toInt = 3 := by decide
  have hij3 := k_add (x := i) (y := 3) (by omega) (by omega)
  refine lv_aload_n hx hb dL_law_203 rfl (lv_at hl 2 rfl) ?_
  refine lv_aload_n hx hb dL_law_204 rfl (lv_at hl 3 rfl) ?_
  refine lv_iload_n hx hb dL_law_205 rfl (lv_at hl 0 rfl) ?_
  refine lv_iconst (v := 1) hx hb dL_law_206 (by decide) ?_
  refine lv_iadd hx hb dL_law_207 ?_
  refine va_sld hx hb hX hbl hbA hS (k_in (by omega) (by omega)) dL_law_208 ?_
  refine lv_aload_n hx hb dL_law_209 rfl (lv_at hl 3 rfl) ?_
  refine lv_iload_n hx hb dL_law_210 rfl (lv_at hl 0 rfl) ?_
  refine lv_iconst (v := 2) hx hb dL_law_211 (by decide) ?_
  refine lv_iadd hx hb dL_law_212 ?_
  refine va_sld hx hb hX hbl hbA hS (k_in (by omega) (by omega)) dL_law_213 ?_
  have hPc := k_appL hP
  have hDc := k_appDL hD
  have hKc := hK.sub (tys' := [(cI, .int), (cO, .object RX0), (cJ, .long)]) [0, 1, 2] rfl
  have hFc := k_free hDc hS hA
  refine va_calli (va_runV (As := [.int (xs (i + 1).toNatClampNeg), .int (xs (i + 2).toNatClampNeg)]) (rest := []) ⟨hx, hb, hml, hown, hts⟩ (c_X3_limit (l := l) (D := D) (cI := cI) (cJ := cJ) (cO := cO) (h := h) (xa := xa) (ea0 := ea) (pa0 := pa) (hf := h1)) (cwV 2 hts gL_law_X3_limit rfl rfl rfl (by decide +kernel) ⟨Nat.le_of_ble_eq_true rfl, Nat.le_of_ble_eq_true rfl⟩) ⟨k_blind, va_recv hKc hPc (ci := 3) (q0 := 0) rfl rfl, fun U hU hW => ⟨rfl, k_pre hU hW hPc hKc hDc⟩⟩ rfl rfl hl.1 rfl (lv_room (Nat.le_of_ble_eq_true rfl)) dL_law_214 ⟨by show 49 + 7 * gN C + (gE C - 256) / 256 + (M.2.2 - 4000) / 4000 + (0) ≤ 600000; omega, by show 13528 + 108 * gN C + 2 * (gE C - 256) + 2 * (M.2.2 - 4000) + (0) ≤ 7302250; omega⟩) hS (fun q _ h => hFc q h) hFc (fun q1 u t H1 locs ht hvm hw hB hz1 hk1 hS => ?_)
  obtain ⟨rfl, rfl, hgx, hhx⟩ := hw
  refine W.widen (k := 49 + 7 * gN C1 + (gE C1 - 256) / 256 + (M.2.2 - 4000) / 4000) (n := 13528 + 108 * gN C1 + 2 * (gE C1 - 256) + 2 * (M.2.2 - 4000)) (by omega) (by omega) ?_
  obtain ⟨hP1, hK1, hD1⟩ := hB
  rw [ht] at hP1
  obtain ⟨hP, hD⟩ := k_joinL hP hD hFc hk1 hP1 hD1
  generalize H1 = H at hP hS ⊢
  refine lv_pop hx hb dL_law_217 rfl ?_
  refine lv_aload_n hx hb dL_law_218 rfl (lv_at hl 1 rfl) ?_
  refine lv_aload_n hx hb dL_law_219 rfl (lv_at hl 3 rfl) ?_
  refine lv_iload_n hx hb dL_law_220 rfl (lv_at hl 0 rfl) ?_
  refine lv_iconst (v := 1) hx hb dL_law_221 (by decide) ?_
  refine lv_iadd hx hb dL_law_222 ?_
  refine va_sld hx hb hX hbl hbA hS (k_in (by omega) (by omega)) dL_law_223 ?_
  refine lv_aload_n hx hb dL_law_224 rfl (lv_at hl 3 rfl) ?_
  refine lv_iload_n hx hb dL_law_225 rfl (lv_at hl 0 rfl) ?_
  refine lv_iconst (v := 2) hx hb dL_law_226 (by decide) ?_
  refine lv_iadd hx hb dL_law_227 ?_
  refine va_sld hx hb hX hbl hbA hS (k_in (by omega) (by omega)) dL_law_228 ?_
  have hPc := k_appR hP
  have hDc := k_appDR hD
  have hKc := hK.sub (tys' := [(cI, .int), (cZ, .boolean)]) [0, 3] rfl
  have hFc := k_free hDc hS hA
  refine va_calli (va_runV (As := [.int (xs (i + 1).toNatClampNeg), .int (xs (i + 2).toNatClampNeg)]) (rest := []) ⟨hx, hb, hml, hown, hts⟩ (c_X4_limit (l := l) (D := D) (cI := cI) (cZ := cZ) (h := gm) (ad := ad) (hf := h2)) (cwV 2 hts gL_law_X4_limit rfl rfl rfl (by decide +kernel) ⟨Nat.le_of_ble_eq_true rfl, Nat.le_of_ble_eq_true rfl⟩) ⟨k_blind, va_recv hKc hPc (ci := 4) (q0 := 0) rfl rfl, fun U hU hW => ⟨rfl, k_pre hU hW hPc hKc hDc⟩⟩ rfl rfl hl.1 rfl (lv_room (Nat.le_of_ble_eq_true rfl)) dL_law_229 ⟨by show 49 + 7 * gN C1 + (gE C1 - 256) / 256 + (M.2.2 - 4000) / 4000 + (0) ≤ 600000; omega, by show 13528 + 108 * gN C1 + 2 * (gE C1 - 256) + 2 * (M.2.2 - 4000) + (0) ≤ 7302250; omega⟩) hS (fun q _ h => hFc q h) hFc (fun q2 u t H1 locs ht hvm hw hB hz1 hk1 hS => ?_)
  obtain ⟨rfl, rfl, hgm⟩ := hw
  refine W.widen (k := 49 + 7 * gN C1 + (gE C1 - 256) / 256 + (M1.2.2 - 4000) / 4000) (n := 13528 + 108 * gN C1 + 2 * (gE C1 - 256) + 2 * (M1.2.2 - 4000)) (by omega) (by omega) ?_
  obtain ⟨hP1, hK1, hD1⟩ := hB
  rw [ht] at hP1
  obtain ⟨hP, hD⟩ := k_joinR hP hD hFc hk1 hP1 hD1
  generalize H1 = H at hP hS ⊢
  refine lv_pop hx hb dL_law_232 rfl ?_
  refine lv_goto (tgt := 516) hx hb dL_law_233 (by decide) ?_
  exact kk ea pa ad _ _ hP hD hS
set_option maxHeartbeats 4000000 in
set_option maxRecDepth 100000 in
theorem lc_4 {p : Program} {e : Env} {s : State} {m : MethodId} {below : List Frame} {meth : Method} {c : Code} {l : Launch} {b L : Nat} {xs : Nat → Int32} (X0 : lw_At p s m meth c b L xs) {D : va_G} {A : Nat → Prop} (hA : ∀ q : Nat, s.heap.size ≤ q → A q) (hAf : ∀ q : Nat, A q → s.heap.size ≤ q) {cI cJ cO cZ : ClassId} {h gm : Nat} {xa : Nat → Nat} {ea : Nat} {pa : Nat → Nat → Nat} {ad : Nat → Nat} {C : CS} {M : MS} {i : Int32} {H : Heap} {locs : List Loc} {ls : Array Slot} (hi : 0 ≤ i.toInt ∧ i.toInt + 4 ≤ L) (hL : L ≤ 2048) (hbd : lbd C M) (hK : va_K D vwCl [(cI, .int), (cO, .object RX0), (cJ, .long), (cZ, .boolean)] s) (hP : va_P D vwCl (cW cI cJ cO h xa ea pa C ++ mW cI cZ gm ad M) H) (hD : va_D A (cW cI cJ cO h xa ea pa C ++ mW cI cZ gm ad M)) (hS : va_S A s.heap H locs) (hl : lv_has ls 4 [(3, .int i), (2, .ref gm), (1, .ref h), (0, .ref b)]) {q1 q2 : Int32} {C1 : CS} {M1 : MS} (h1 : f_X3_floor (xs (i + 1).toNatClampNeg) (xs (i + 2).toNatClampNeg) C = some (q1, C1)) (h2 : f_X4_floor (xs (i + 1).toNatClampNeg) (xs (i + 2).toNatClampNeg) M = some (q2, M1)) (kk : ∀ (ea : Nat) (pa : Nat → Nat → Nat) (ad : Nat → Nat) (H : Heap) (locs : List Loc), va_P D vwCl (cW cI cJ cO h xa ea pa C1 ++ mW cI cZ gm ad M1) H → va_D A (cW cI cJ cO h xa ea pa C1 ++ mW cI cZ gm ad M1) → va_S A s.heap H locs → W p l e room_1 s m #[Value.ref b] below meth c H locs (49 + 7 * gN C1 + (gE C1 - 256) / 256 + (M1.2.2 - 4000) / 4000) (13528 + 108 * gN C1 + 2 * (gE C1 - 256) + 2 * (M1.2.2 - 4000)) (lw_Z below #[Value.ref b] s) (F0 m 516 ls [])) : W p l e room_1 s m #[Value.ref b] below meth c H locs (49 + 7 * gN C + (gE C - 256) / 256 + (M.2.2 - 4000) / 4000) (13528 + 108 * gN C + 2 * (gE C - 256) + 2 * (M.2.2 - 4000)) (lw_Z below #[Value.ref b] s) (F0 m 236 ls []) := by
  obtain ⟨hx, hb, hr, hml, hown, hts0, hX, hbl, hlocks, hgv⟩ := id X0
  have hts : ∀ w ∈ wsL_law, w.before #[Value.ref b] s = true := fun w h => hts0 w (wsL_law_in w h)
  have hown : s.vm.findClass RL = some m.cls := hown
  have hbA : ¬ A b := fun h => absurd (hAf b h) (Nat.not_le.mpr hbl)
  have hLi : (Int32.ofNat L).toInt = (L : Int) := nI_toInt (n := L) (by omega)
  obtain ⟨hb1, hb2, hb3, hb4, hb5⟩ := id hbd
  have hl1 : (1 : Int32).toInt = 1 := by decide
  have hij1 := k_add (x := i) (y := 1) (by omega) (by omega)
  have hl2 : (2 : Int32).toInt = 2 := by decide
  have hij2 := k_add (x := i) (y := 2) (by omega) (by omega)
  have hl3 : (3 : Int32).toInt = 3 := by decide
  have hij3 := k_add (x := i) (y := 3) (by omega) (by omega)
  refine lv_aload_n hx hb dL_law_236 rfl (lv_at hl 2 rfl) ?_
  refine lv_aload_n hx hb dL_law_237 rfl (lv_at hl 3 rfl) ?_
  refine lv_iload_n hx hb dL_law_238 rfl (lv_at hl 0 rfl) ?_
  refine lv_iconst (v := 1) hx hb dL_law_239 (by decide) ?_
  refine lv_iadd hx hb dL_law_240 ?_
  refine va_sld hx hb hX hbl hbA hS (k_in (by omega) (by omega)) dL_law_241 ?_
  refine lv_aload_n hx hb dL_law_242 rfl (lv_at hl 3 rfl) ?_
  refine lv_iload_n hx hb dL_law_243 rfl (lv_at hl 0 rfl) ?_
  refine lv_iconst (v := 2) hx hb dL_law_244 (by decide) ?_
  refine lv_iadd hx hb dL_law_245 ?_
  refine va_sld hx hb hX hbl hbA hS (k_in (by omega) (by omega)) dL_law_246 ?_
  have hPc := k_appL hP
  have hDc := k_appDL hD
  have hKc := hK.sub (tys' := [(cI, .int), (cO, .object RX0), (cJ, .long)]) [0, 1, 2] rfl
  have hFc := k_free hDc hS hA
  refine va_calli (va_runV (As := [.int (xs (i + 1).toNatClampNeg), .int (xs (i + 2).toNatClampNeg)]) (rest := []) ⟨hx, hb, hml, hown, hts⟩ (c_X3_floor (l := l) (D := D) (cI := cI) (cJ := cJ) (cO := cO) (h := h) (xa := xa) (ea0 := ea) (pa0 := pa) (hf := h1)) (cwV 2 hts gL_law_X3_floor rfl rfl rfl (by decide +kernel) ⟨Nat.le_of_ble_eq_true rfl, Nat.le_of_ble_eq_true rfl⟩) ⟨k_blind, va_recv hKc hPc (ci := 3) (q0 := 0) rfl rfl, fun U hU hW => ⟨rfl, k_pre hU hW hPc hKc hDc⟩⟩ rfl rfl hl.1 rfl (lv_room (Nat.le_of_ble_eq_true rfl)) dL_law_247 ⟨by show 49 + 7 * gN C + (gE C - 256) / 256 + (M.2.2 - 4000) / 4000 + (0) ≤ 600000; omega, by show 13528 + 108 * gN C + 2 * (gE C - 256) + 2 * (M.2.2 - 4000) + (0) ≤ 7302250; omega⟩) hS (fun q _ h => hFc q h) hFc (fun q1 u t H1 locs ht hvm hw hB hz1 hk1 hS => ?_)
  obtain ⟨rfl, rfl, hgx, hhx⟩ := hw
  refine W.widen (k := 49 + 7 * gN C1 + (gE C1 - 256) / 256 + (M.2.2 - 4000) / 4000) (n := 13528 + 108 * gN C1 + 2 * (gE C1 - 256) + 2 * (M.2.2 - 4000)) (by omega) (by omega) ?_
  obtain ⟨hP1, hK1, hD1⟩ := hB
  rw [ht] at hP1
  obtain ⟨hP, hD⟩ := k_joinL hP hD hFc hk1 hP1 hD1
  generalize H1 = H at hP hS ⊢
  refine lv_pop hx hb dL_law_250 rfl ?_
  refine lv_aload_n hx hb dL_law_251 rfl (lv_at hl 1 rfl) ?_
  refine lv_aload_n hx hb dL_law_252 rfl (lv_at hl 3 rfl) ?_
  refine lv_iload_n hx hb dL_law_253 rfl (lv_at hl 0 rfl) ?_
  refine lv_iconst (v := 1) hx hb dL_law_254 (by decide) ?_
  refine lv_iadd hx hb dL_law_255 ?_
  refine va_sld hx hb hX hbl hbA hS (k_in (by omega) (by omega)) dL_law_256 ?_
  refine lv_aload_n hx hb dL_law_257 rfl (lv_at hl 3 rfl) ?_
  refine lv_iload_n hx hb dL_law_258 rfl (lv_at hl 0 rfl) ?_
  refine lv_iconst (v := 2) hx hb dL_law_259 (by decide) ?_
  refine lv_iadd hx hb dL_law_260 ?_
  refine va_sld hx hb hX hbl hbA hS (k_in (by omega) (by omega)) dL_law_261 ?_
  have hPc := k_appR hP
  have hDc := k_appDR hD
  have hKc := hK.sub (tys' := [(cI, .int), (cZ, .boolean)]) [0, 3] rfl
  have hFc := k_free hDc hS hA
  refine va_calli (va_runV (As := [.int (xs (i + 1).toNatClampNeg), .int (xs (i + 2).toNatClampNeg)]) (rest := []) ⟨hx, hb, hml, hown, hts⟩ (c_X4_floor (l := l) (D := D) (cI := cI) (cZ := cZ) (h := gm) (ad := ad) (hf := h2)) (cwV 2 hts gL_law_X4_floor rfl rfl rfl (by decide +kernel) ⟨Nat.le_of_ble_eq_true rfl, Nat.le_of_ble_eq_true rfl⟩) ⟨k_blind, va_recv hKc hPc (ci := 4) (q0 := 0) rfl rfl, fun U hU hW => ⟨rfl, k_pre hU hW hPc hKc hDc⟩⟩ rfl rfl hl.1 rfl (lv_room (Nat.le_of_ble_eq_true rfl)) dL_law_262 ⟨by show 49 + 7 * gN C1 + (gE C1 - 256) / 256 + (M.2.2 - 4000) / 4000 + (0) ≤ 600000; omega, by show 13528 + 108 * gN C1 + 2 * (gE C1 - 256) + 2 * (M.2.2 - 4000) + (0) ≤ 7302250; omega⟩) hS (fun q _ h => hFc q h) hFc (fun q2 u t H1 locs ht hvm hw hB hz1 hk1 hS => ?_)
  obtain ⟨rfl, rfl, hgm⟩ := hw
  refine W.widen (k := 49 + 7 * gN C1 + (gE C1 - 256) / 256 + (M1.2.2 - 4000) / 4000) (n := 13528 + 108 * gN C1 + 2 * (gE C1 - 256) + 2 * (M1.2.2 - 4000)) (by omega) (by omega) ?_
  obtain ⟨hP1, hK1, hD1⟩ := hB
  rw [ht] at hP1
  obtain ⟨hP, hD⟩ := k_joinR hP hD hFc hk1 hP1 hD1
  generalize H1 = H at hP hS ⊢
  refine lv_pop hx hb dL_law_265 rfl ?_
  refine lv_goto (tgt := 516) hx hb dL_law_266 (by decide) ?_
  exact kk ea pa ad _ _ hP hD hS
set_option maxHeartbeats 4000000 in
set_option maxRecDepth 100000 in
theorem lc_5 {p : Program} {e : Env} {s : State} {m : MethodId} {below : List Frame} {meth : Method} {c : Code} {l : Launch} {b L : Nat} {xs : Nat → Int32} (X0 : lw_At p s m meth c b L xs) {D : va_G} {A : Nat → Prop} (hA : ∀ q : Nat, s.heap.size ≤ q → A q) (hAf : ∀ q : Nat, A q → s.heap.size ≤ q) {cI cJ cO cZ : ClassId} {h gm : Nat} {xa : Nat → Nat} {ea : Nat} {pa : Nat → Nat → Nat} {ad : Nat → Nat} {C : CS} {M : MS} {i : Int32} {H : Heap} {locs : List Loc} {ls : Array Slot} (hi : 0 ≤ i.toInt ∧ i.toInt + 4 ≤ L) (hL : L ≤ 2048) (hbd : lbd C M) (hK : va_K D vwCl [(cI, .int), (cO, .object RX0), (cJ, .long), (cZ, .boolean)] s) (hP : va_P D vwCl (cW cI cJ cO h xa ea pa C ++ mW cI cZ gm ad M) H) (hD : va_D A (cW cI cJ cO h xa ea pa C ++ mW cI cZ gm ad M)) (hS : va_S A s.heap H locs) (hl : lv_has ls 4 [(3, .int i), (2, .ref gm), (1, .ref h), (0, .ref b)]) {q1 q2 : Int32} {C1 : CS} {M1 : MS} (h1 : f_X3_go (xs (i + 1).toNatClampNeg) C = some (q1, C1)) (h2 : f_X4_go (xs (i + 1).toNatClampNeg) M = some (q2, M1)) (kk : ∀ (ea : Nat) (pa : Nat → Nat → Nat) (ad : Nat → Nat) (H : Heap) (locs : List Loc), va_P D vwCl (cW cI cJ cO h xa ea pa C1 ++ mW cI cZ gm ad M1) H → va_D A (cW cI cJ cO h xa ea pa C1 ++ mW cI cZ gm ad M1) → va_S A s.heap H locs → W p l e room_1 s m #[Value.ref b] below meth c H locs (49 + 7 * gN C1 + (gE C1 - 256) / 256 + (M1.2.2 - 4000) / 4000) (13528 + 108 * gN C1 + 2 * (gE C1 - 256) + 2 * (M1.2.2 - 4000)) (lw_Z below #[Value.ref b] s) (F0 m 516 ls [])) : W p l e room_1 s m #[Value.ref b] below meth c H locs (49 + 7 * gN C + (gE C - 256) / 256 + (M.2.2 - 4000) / 4000) (13528 + 108 * gN C + 2 * (gE C - 256) + 2 * (M.2.2 - 4000)) (lw_Z below #[Value.ref b] s) (F0 m 269 ls []) := by
  obtain ⟨hx, hb, hr, hml, hown, hts0, hX, hbl, hlocks, hgv⟩ := id X0
  have hts : ∀ w ∈ wsL_law, w.before #[Value.ref b] s = true := fun w h => hts0 w (wsL_law_in w h)
  have hown : s.vm.findClass RL = some m.cls := hown
  have hbA : ¬ A b := fun h => absurd (hAf b h) (Nat.not_le.mpr hbl)
  have hLi : (Int32.ofNat L).toInt = (L : Int) := nI_toInt (n := L) (by omega)
  obtain ⟨hb1, hb2, hb3, hb4, hb5⟩ := id hbd
  have hl1 : (1 : Int32).toInt = 1 := by decide
  have hij1 := k_add (x := i) (y := 1) (by omega) (by omega)
  have hl2 : (2 : Int32).toInt = 2 := by decide
  have hij2 := k_add (x := i) (y := 2) (by omega) (by omega)
  have hl3 : (3 : Int32).toInt = 3 := by decide
  have hij3 := k_add (x := i) (y := 3) (by omega) (by omega)
  refine lv_aload_n hx hb dL_law_269 rfl (lv_at hl 2 rfl) ?_
  refine lv_aload_n hx hb dL_law_270 rfl (lv_at hl 3 rfl) ?_
  refine lv_iload_n hx hb dL_law_271 rfl (lv_at hl 0 rfl) ?_
  refine lv_iconst (v := 1) hx hb dL_law_272 (by decide) ?_
  refine lv_iadd hx hb dL_law_273 ?_
  refine va_sld hx hb hX hbl hbA hS (k_in (by omega) (by omega)) dL_law_274 ?_
  have hPc := k_appL hP
  have hDc := k_appDL hD
  have hKc := hK.sub (tys' := [(cI, .int), (cO, .object RX0), (cJ, .long)]) [0, 1, 2] rfl
  have hFc := k_free hDc hS hA
  refine k_facts (fun hn1 hn2 hn3 => ?_)
  refine va_calli (va_runV (As := [.int (xs (i + 1).toNatClampNeg)]) (rest := []) ⟨hx, hb, hml, hown, hts⟩ (c_X3_go (l := l) (D := D) (cI := cI) (cJ := cJ) (cO := cO) (h := h) (xa := xa) (ea0 := ea) (pa0 := pa) (hg := ⟨by omega, by omega⟩) (hf := h1)) (cwV 1 hts gL_law_X3_go rfl rfl rfl (by decide +kernel) ⟨Nat.le_of_ble_eq_true rfl, Nat.le_of_ble_eq_true rfl⟩) ⟨k_blindH, va_recv hKc hPc (ci := 3) (q0 := 0) rfl rfl, fun U hU hW => ⟨rfl, k_preH hU hW hPc hKc hDc⟩⟩ rfl rfl hl.1 rfl (lv_room (Nat.le_of_ble_eq_true rfl)) dL_law_275 ⟨by show 49 + 7 * gN C + (gE C - 256) / 256 + (M.2.2 - 4000) / 4000 + (7 * (80 - gN C) + (1048576 - gE C) / 256) ≤ 600000; omega, by show 13528 + 108 * gN C + 2 * (gE C - 256) + 2 * (M.2.2 - 4000) + (108 * (80 - gN C) + 2 * (1048576 - gE C)) ≤ 7302250; omega⟩) hS (fun q _ h => hFc q h) hFc (fun q1 u t H1 locs ht hvm hw hB hz1 hk1 hS => ?_)
  obtain ⟨ea1, pa1, rfl, rfl, hgx, -⟩ := hw
  obtain ⟨hB, hz2, hz3, hz4⟩ := hB
  rw [ht] at hz2 hz3 hz4
  refine k_tight (k := 49 + 7 * gN C1 + (gE C1 - 256) / 256 + (M.2.2 - 4000) / 4000) (n := 13528 + 108 * gN C1 + 2 * (gE C1 - 256) + 2 * (M.2.2 - 4000)) (by omega) (by rw [k_nS_tr hn3.1 hz2]; omega) ?_
  obtain ⟨hP1, hK1, hD1⟩ := hB
  rw [ht] at hP1
  obtain ⟨hP, hD⟩ := k_joinL hP hD hFc hk1 hP1 hD1
  generalize H1 = H at hP hS ⊢
  refine lv_pop hx hb dL_law_278 rfl ?_
  refine lv_aload_n hx hb dL_law_279 rfl (lv_at hl 1 rfl) ?_
  refine lv_aload_n hx hb dL_law_280 rfl (lv_at hl 3 rfl) ?_
  refine lv_iload_n hx hb dL_law_281 rfl (lv_at hl 0 rfl) ?_
  refine lv_iconst (v := 1) hx hb dL_law_282 (by decide) ?_
  refine lv_iadd hx hb dL_law_283 ?_
  refine va_sld hx hb hX hbl hbA hS (k_in (by omega) (by omega)) dL_law_284 ?_
  have hPc := k_appR hP
  have hDc := k_appDR hD
  have hKc := hK.sub (tys' := [(cI, .int), (cZ, .boolean)]) [0, 3] rfl
  have hFc := k_free hDc hS hA
  refine k_facts (fun hn1 hn2 hn3 => ?_)
  refine va_calli (va_runV (As := [.int (xs (i + 1).toNatClampNeg)]) (rest := []) ⟨hx, hb, hml, hown, hts⟩ (c_X4_go (l := l) (D := D) (cI := cI) (cZ := cZ) (h := gm) (ad := ad) (hg := by omega) (hf := h2)) (cwV 1 hts gL_law_X4_go rfl rfl rfl (by decide +kernel) ⟨Nat.le_of_ble_eq_true rfl, Nat.le_of_ble_eq_true rfl⟩) ⟨k_blindH, va_recv hKc hPc (ci := 4) (q0 := 0) rfl rfl, fun U hU hW => ⟨rfl, k_preH hU hW hPc hKc hDc⟩⟩ rfl rfl hl.1 rfl (lv_room (Nat.le_of_ble_eq_true rfl)) dL_law_285 ⟨by show 49 + 7 * gN C1 + (gE C1 - 256) / 256 + (M.2.2 - 4000) / 4000 + ((2048000 - M.2.2) / 4000) ≤ 600000; omega, by show 13528 + 108 * gN C1 + 2 * (gE C1 - 256) + 2 * (M.2.2 - 4000) + (2 * (2048000 - M.2.2)) ≤ 7302250; omega⟩) hS (fun q _ h => hFc q h) hFc (fun q2 u t H1 locs ht hvm hw hB hz1 hk1 hS => ?_)
  obtain ⟨ad1, rfl, rfl, hgm1, hgm2⟩ := hw
  obtain ⟨hB, hz2, hz3, hz4⟩ := hB
  rw [ht] at hz2 hz3 hz4
  refine k_tight (k := 49 + 7 * gN C1 + (gE C1 - 256) / 256 + (M1.2.2 - 4000) / 4000) (n := 13528 + 108 * gN C1 + 2 * (gE C1 - 256) + 2 * (M1.2.2 - 4000)) (by omega) (by rw [k_nS_tr hn3.1 hz2]; omega) ?_
  obtain ⟨hP1, hK1, hD1⟩ := hB
  rw [ht] at hP1
  obtain ⟨hP, hD⟩ := k_joinR hP hD hFc hk1 hP1 hD1
  generalize H1 = H at hP hS ⊢
  refine lv_pop hx hb dL_law_288 rfl ?_
  refine lv_goto (tgt := 516) hx hb dL_law_289 (by decide) ?_
  exact kk ea1 pa1 ad1 _ _ hP hD hS
set_option maxHeartbeats 4000000 in
set_option maxRecDepth 100000 in
theorem lc_6 {p : Program} {e : Env} {s : State} {m : MethodId} {below : List Frame} {meth : Method} {c : Code} {l : Launch} {b L : Nat} {xs : Nat → Int32} (X0 : lw_At p s m meth c b L xs) {D : va_G} {A : Nat → Prop} (hA : ∀ q : Nat, s.heap.size ≤ q → A q) (hAf : ∀ q : Nat, A q → s.heap.size ≤ q) {cI cJ cO cZ : ClassId} {h gm : Nat} {xa : Nat → Nat} {ea : Nat} {pa : Nat → Nat → Nat} {ad : Nat → Nat} {C : CS} {M : MS} {i : Int32} {H : Heap} {locs : List Loc} {ls : Array Slot} (hi : 0 ≤ i.toInt ∧ i.toInt + 4 ≤ L) (hL : L ≤ 2048) (hbd : lbd C M) (hK : va_K D vwCl [(cI, .int), (cO, .object RX0), (cJ, .long), (cZ, .boolean)] s) (hP : va_P D vwCl (cW cI cJ cO h xa ea pa C ++ mW cI cZ gm ad M) H) (hD : va_D A (cW cI cJ cO h xa ea pa C ++ mW cI cZ gm ad M)) (hS : va_S A s.heap H locs) (hl : lv_has ls 4 [(3, .int i), (2, .ref gm), (1, .ref h), (0, .ref b)]) {q1 q2 : Int32} {C1 : CS} {M1 : MS} (h1 : f_X3_fall (xs (i + 1).toNatClampNeg) C = some (q1, C1)) (h2 : f_X4_fall (xs (i + 1).toNatClampNeg) M = some (q2, M1)) (kk : ∀ (ea : Nat) (pa : Nat → Nat → Nat) (ad : Nat → Nat) (H : Heap) (locs : List Loc), va_P D vwCl (cW cI cJ cO h xa ea pa C1 ++ mW cI cZ gm ad M1) H → va_D A (cW cI cJ cO h xa ea pa C1 ++ mW cI cZ gm ad M1) → va_S A s.heap H locs → W p l e room_1 s m #[Value.ref b] below meth c H locs (49 + 7 * gN C1 + (gE C1 - 256) / 256 + (M1.2.2 - 4000) / 4000) (13528 + 108 * gN C1 + 2 * (gE C1 - 256) + 2 * (M1.2.2 - 4000)) (lw_Z below #[Value.ref b] s) (F0 m 516 ls [])) : W p l e room_1 s m #[Value.ref b] below meth c H locs (49 + 7 * gN C + (gE C - 256) / 256 + (M.2.2 - 4000) / 4000) (13528 + 108 * gN C + 2 * (gE C - 256) + 2 * (M.2.2 - 4000)) (lw_Z below #[Value.ref b] s) (F0 m 292 ls []) := by
  obtain ⟨hx, hb, hr, hml, hown, hts0, hX, hbl, hlocks, hgv⟩ := id X0
  have hts : ∀ w ∈ wsL_law, w.before #[Value.ref b] s = true := fun w h => hts0 w (wsL_law_in w h)
  have hown : s.vm.findClass RL = some m.cls := hown
  have hbA : ¬ A b := fun h => absurd (hAf b h) (Nat.not_le.mpr hbl)
  have hLi : (Int32.ofNat L).toInt = (L : Int) := nI_toInt (n := L) (by omega)
  obtain ⟨hb1, hb2, hb3, hb4, hb5⟩ := id hbd
  have hl1 : (1 : Int32).toInt = 1 := by decide
  have hij1 := k_add (x := i) (y := 1) (by omega) (by omega)
  have hl2 : (2 : Int32).toInt = 2 := by decide
  have hij2 := k_add (x := i) (y := 2) (by omega) (by omega)
  have hl3 : (3 : Int32).toInt = 3 := by decide
  have hij3 := k_add (x := i) (y := 3) (by omega) (by omega)
  refine lv_aload_n hx hb dL_law_292 rfl (lv_at hl 2 rfl) ?_
  refine lv_aload_n hx hb dL_law_293 rfl (lv_at hl 3 rfl) ?_
  refine lv_iload_n hx hb dL_law_294 rfl (lv_at hl 0 rfl) ?_
  refine lv_iconst (v := 1) hx hb dL_law_295 (by decide) ?_
  refine lv_iadd hx hb dL_law_296 ?_
  refine va_sld hx hb hX hbl hbA hS (k_in (by omega) (by omega)) dL_law_297 ?_
  have hPc := k_appL hP
  have hDc := k_appDL hD
  have hKc := hK.sub (tys' := [(cI, .int), (cO, .object RX0), (cJ, .long)]) [0, 1, 2] rfl
  have hFc := k_free hDc hS hA
  refine va_calli (va_runV (As := [.int (xs (i + 1).toNatClampNeg)]) (rest := []) ⟨hx, hb, hml, hown, hts⟩ (c_X3_fall (l := l) (D := D) (cI := cI) (cJ := cJ) (cO := cO) (h := h) (xa := xa) (ea0 := ea) (pa0 := pa) (hf := h1)) (cwV 1 hts gL_law_X3_fall rfl rfl rfl (by decide +kernel) ⟨Nat.le_of_ble_eq_true rfl, Nat.le_of_ble_eq_true rfl⟩) ⟨k_blind, va_recv hKc hPc (ci := 3) (q0 := 0) rfl rfl, fun U hU hW => ⟨rfl, k_pre hU hW hPc hKc hDc⟩⟩ rfl rfl hl.1 rfl (lv_room (Nat.le_of_ble_eq_true rfl)) dL_law_298 ⟨by show 49 + 7 * gN C + (gE C - 256) / 256 + (M.2.2 - 4000) / 4000 + (0) ≤ 600000; omega, by show 13528 + 108 * gN C + 2 * (gE C - 256) + 2 * (M.2.2 - 4000) + (0) ≤ 7302250; omega⟩) hS (fun q _ h => hFc q h) hFc (fun q1 u t H1 locs ht hvm hw hB hz1 hk1 hS => ?_)
  obtain ⟨rfl, rfl, hgx, hhx⟩ := hw
  refine W.widen (k := 49 + 7 * gN C1 + (gE C1 - 256) / 256 + (M.2.2 - 4000) / 4000) (n := 13528 + 108 * gN C1 + 2 * (gE C1 - 256) + 2 * (M.2.2 - 4000)) (by omega) (by omega) ?_
  obtain ⟨hP1, hK1, hD1⟩ := hB
  rw [ht] at hP1
  obtain ⟨hP, hD⟩ := k_joinL hP hD hFc hk1 hP1 hD1
  generalize H1 = H at hP hS ⊢
  refine lv_pop hx hb dL_law_301 rfl ?_
  refine lv_aload_n hx hb dL_law_302 rfl (lv_at hl 1 rfl) ?_
  refine lv_aload_n hx hb dL_law_303 rfl (lv_at hl 3 rfl) ?_
  refine lv_iload_n hx hb dL_law_304 rfl (lv_at hl 0 rfl) ?_
  refine lv_iconst (v := 1) hx hb dL_law_305 (by decide) ?_
  refine lv_iadd hx hb dL_law_306 ?_
  refine va_sld hx hb hX hbl hbA hS (k_in (by omega) (by omega)) dL_law_307 ?_
  have hPc := k_appR hP
  have hDc := k_appDR hD
  have hKc := hK.sub (tys' := [(cI, .int), (cZ, .boolean)]) [0, 3] rfl
  have hFc := k_free hDc hS hA
  refine va_calli (va_runV (As := [.int (xs (i + 1).toNatClampNeg)]) (rest := []) ⟨hx, hb, hml, hown, hts⟩ (c_X4_fall (l := l) (D := D) (cI := cI) (cZ := cZ) (h := gm) (ad := ad) (hf := h2)) (cwV 1 hts gL_law_X4_fall rfl rfl rfl (by decide +kernel) ⟨Nat.le_of_ble_eq_true rfl, Nat.le_of_ble_eq_true rfl⟩) ⟨k_blind, va_recv hKc hPc (ci := 4) (q0 := 0) rfl rfl, fun U hU hW => ⟨rfl, k_pre hU hW hPc hKc hDc⟩⟩ rfl rfl hl.1 rfl (lv_room (Nat.le_of_ble_eq_true rfl)) dL_law_308 ⟨by show 49 + 7 * gN C1 + (gE C1 - 256) / 256 + (M.2.2 - 4000) / 4000 + (0) ≤ 600000; omega, by show 13528 + 108 * gN C1 + 2 * (gE C1 - 256) + 2 * (M.2.2 - 4000) + (0) ≤ 7302250; omega⟩) hS (fun q _ h => hFc q h) hFc (fun q2 u t H1 locs ht hvm hw hB hz1 hk1 hS => ?_)
  obtain ⟨rfl, rfl, hgm⟩ := hw
  refine W.widen (k := 49 + 7 * gN C1 + (gE C1 - 256) / 256 + (M1.2.2 - 4000) / 4000) (n := 13528 + 108 * gN C1 + 2 * (gE C1 - 256) + 2 * (M1.2.2 - 4000)) (by omega) (by omega) ?_
  obtain ⟨hP1, hK1, hD1⟩ := hB
  rw [ht] at hP1
  obtain ⟨hP, hD⟩ := k_joinR hP hD hFc hk1 hP1 hD1
  generalize H1 = H at hP hS ⊢
  refine lv_pop hx hb dL_law_311 rfl ?_
  refine lv_goto (tgt := 516) hx hb dL_law_312 (by decide) ?_
  exact kk ea pa ad _ _ hP hD hS
set_option maxHeartbeats 4000000 in
set_option maxRecDepth 100000 in
theorem lc_7 {p : Program} {e : Env} {s : State} {m : MethodId} {below : List Frame} {meth : Method} {c : Code} {l : Launch} {b L : Nat} {xs : Nat → Int32} (X0 : lw_At p s m meth c b L xs) {D : va_G} {A : Nat → Prop} (hA : ∀ q : Nat, s.heap.size ≤ q → A q) (hAf : ∀ q : Nat, A q → s.heap.size ≤ q) {cI cJ cO cZ : ClassId} {h gm : Nat} {xa : Nat → Nat} {ea : Nat} {pa : Nat → Nat → Nat} {ad : Nat → Nat} {C : CS} {M : MS} {i : Int32} {H : Heap} {locs : List Loc} {ls : Array Slot} (hi : 0 ≤ i.toInt ∧ i.toInt + 4 ≤ L) (hL : L ≤ 2048) (hbd : lbd C M) (hK : va_K D vwCl [(cI, .int), (cO, .object RX0), (cJ, .long), (cZ, .boolean)] s) (hP : va_P D vwCl (cW cI cJ cO h xa ea pa C ++ mW cI cZ gm ad M) H) (hD : va_D A (cW cI cJ cO h xa ea pa C ++ mW cI cZ gm ad M)) (hS : va_S A s.heap H locs) (hl : lv_has ls 4 [(3, .int i), (2, .ref gm), (1, .ref h), (0, .ref b)]) {q1 q2 : Int32} {C1 : CS} {M1 : MS} (h1 : f_X3_told (xs (i + 1).toNatClampNeg) (xs (i + 2).toNatClampNeg) C = some (q1, C1)) (h2 : f_X4_told (xs (i + 1).toNatClampNeg) (xs (i + 2).toNatClampNeg) M = some (q2, M1)) (kk : ∀ (ea : Nat) (pa : Nat → Nat → Nat) (ad : Nat → Nat) (H : Heap) (locs : List Loc), va_P D vwCl (cW cI cJ cO h xa ea pa C1 ++ mW cI cZ gm ad M1) H → va_D A (cW cI cJ cO h xa ea pa C1 ++ mW cI cZ gm ad M1) → va_S A s.heap H locs → W p l e room_1 s m #[Value.ref b] below meth c H locs (49 + 7 * gN C1 + (gE C1 - 256) / 256 + (M1.2.2 - 4000) / 4000) (13528 + 108 * gN C1 + 2 * (gE C1 - 256) + 2 * (M1.2.2 - 4000)) (lw_Z below #[Value.ref b] s) (F0 m 516 ls [])) : W p l e room_1 s m #[Value.ref b] below meth c H locs (49 + 7 * gN C + (gE C - 256) / 256 + (M.2.2 - 4000) / 4000) (13528 + 108 * gN C + 2 * (gE C - 256) + 2 * (M.2.2 - 4000)) (lw_Z below #[Value.ref b] s) (F0 m 315 ls []) := by
  obtain ⟨hx, hb, hr, hml, hown, hts0, hX, hbl, hlocks, hgv⟩ := id X0
  have hts : ∀ w ∈ wsL_law, w.before #[Value.ref b] s = true := fun w h => hts0 w (wsL_law_in w h)
  have hown : s.vm.findClass RL = some m.cls := hown
  have hbA : ¬ A b := fun h => absurd (hAf b h) (Nat.not_le.mpr hbl)
  have hLi : (Int32.ofNat L).toInt = (L : Int) := nI_toInt (n := L) (by omega)
  obtain ⟨hb1, hb2, hb3, hb4, hb5⟩ := id hbd
  have hl1 : (1 : Int32).toInt = 1 := by decide
  have hij1 := k_add (x := i) (y := 1) (by omega) (by omega)
  have hl2 : (2 : Int32).toInt = 2 := by decide
  have hij2 := k_add (x := i) (y := 2) (by omega) (by omega)
  have hl3 : (3 : Int32).toInt = 3 := by decide
  have hij3 := k_add (x := i) (y := 3) (by omega) (by omega)
  refine lv_aload_n hx hb dL_law_315 rfl (lv_at hl 2 rfl) ?_
  refine lv_aload_n hx hb dL_law_316 rfl (lv_at hl 3 rfl) ?_
  refine lv_iload_n hx hb dL_law_317 rfl (lv_at hl 0 rfl) ?_
  refine lv_iconst (v := 1) hx hb dL_law_318 (by decide) ?_
  refine lv_iadd hx hb dL_law_319 ?_
  refine va_sld hx hb hX hbl hbA hS (k_in (by omega) (by omega)) dL_law_320 ?_
  refine lv_aload_n hx hb dL_law_321 rfl (lv_at hl 3 rfl) ?_
  refine lv_iload_n hx hb dL_law_322 rfl (lv_at hl 0 rfl) ?_
  refine lv_iconst (v := 2) hx hb dL_law_323 (by decide) ?_
  refine lv_iadd hx hb dL_law_324 ?_
  refine va_sld hx hb hX hbl hbA hS (k_in (by omega) (by omega)) dL_law_325 ?_
  have hPc := k_appL hP
  have hDc := k_appDL hD
  have hKc := hK.sub (tys' := [(cI, .int), (cO, .object RX0), (cJ, .long)]) [0, 1, 2] rfl
  have hFc := k_free hDc hS hA
  refine va_calli (va_runV (As := [.int (xs (i + 1).toNatClampNeg), .int (xs (i + 2).toNatClampNeg)]) (rest := []) ⟨hx, hb, hml, hown, hts⟩ (c_X3_told (l := l) (D := D) (cI := cI) (cJ := cJ) (cO := cO) (h := h) (xa := xa) (ea0 := ea) (pa0 := pa) (hf := h1)) (cwV 2 hts gL_law_X3_told rfl rfl rfl (by decide +kernel) ⟨Nat.le_of_ble_eq_true rfl, Nat.le_of_ble_eq_true rfl⟩) ⟨k_blind, va_recv hKc hPc (ci := 3) (q0 := 0) rfl rfl, fun U hU hW => ⟨rfl, k_pre hU hW hPc hKc hDc⟩⟩ rfl rfl hl.1 rfl (lv_room (Nat.le_of_ble_eq_true rfl)) dL_law_326 ⟨by show 49 + 7 * gN C + (gE C - 256) / 256 + (M.2.2 - 4000) / 4000 + (0) ≤ 600000; omega, by show 13528 + 108 * gN C + 2 * (gE C - 256) + 2 * (M.2.2 - 4000) + (0) ≤ 7302250; omega⟩) hS (fun q _ h => hFc q h) hFc (fun q1 u t H1 locs ht hvm hw hB hz1 hk1 hS => ?_)
  obtain ⟨rfl, rfl, hgx, hhx⟩ := hw
  refine W.widen (k := 49 + 7 * gN C1 + (gE C1 - 256) / 256 + (M.2.2 - 4000) / 4000) (n := 13528 + 108 * gN C1 + 2 * (gE C1 - 256) + 2 * (M.2.2 - 4000)) (by omega) (by omega) ?_
  obtain ⟨hP1, hK1, hD1⟩ := hB
  rw [ht] at hP1
  obtain ⟨hP, hD⟩ := k_joinL hP hD hFc hk1 hP1 hD1
  generalize H1 = H at hP hS ⊢
  refine lv_pop hx hb dL_law_329 rfl ?_
  refine lv_aload_n hx hb dL_law_330 rfl (lv_at hl 1 rfl) ?_
  refine lv_aload_n hx hb dL_law_331 rfl (lv_at hl 3 rfl) ?_
  refine lv_iload_n hx hb dL_law_332 rfl (lv_at hl 0 rfl) ?_
  refine lv_iconst (v := 1) hx hb dL_law_333 (by decide) ?_
  refine lv_iadd hx hb dL_law_334 ?_
  refine va_sld hx hb hX hbl hbA hS (k_in (by omega) (by omega)) dL_law_335 ?_
  refine lv_aload_n hx hb dL_law_336 rfl (lv_at hl 3 rfl) ?_
  refine lv_iload_n hx hb dL_law_337 rfl (lv_at hl 0 rfl) ?_
  refine lv_iconst (v := 2) hx hb dL_law_338 (by decide) ?_
  refine lv_iadd hx hb dL_law_339 ?_
  refine va_sld hx hb hX hbl hbA hS (k_in (by omega) (by omega)) dL_law_340 ?_
  have hPc := k_appR hP
  have hDc := k_appDR hD
  have hKc := hK.sub (tys' := [(cI, .int), (cZ, .boolean)]) [0, 3] rfl
  have hFc := k_free hDc hS hA
  refine va_calli (va_runV (As := [.int (xs (i + 1).toNatClampNeg), .int (xs (i + 2).toNatClampNeg)]) (rest := []) ⟨hx, hb, hml, hown, hts⟩ (c_X4_told (l := l) (D := D) (cI := cI) (cZ := cZ) (h := gm) (ad := ad) (hf := h2)) (cwV 2 hts gL_law_X4_told rfl rfl rfl (by decide +kernel) ⟨Nat.le_of_ble_eq_true rfl, Nat.le_of_ble_eq_true rfl⟩) ⟨k_blind, va_recv hKc hPc (ci := 4) (q0 := 0) rfl rfl, fun U hU hW => ⟨rfl, k_pre hU hW hPc hKc hDc⟩⟩ rfl rfl hl.1 rfl (lv_room (Nat.le_of_ble_eq_true rfl)) dL_law_341 ⟨by show 49 + 7 * gN C1 + (gE C1 - 256) / 256 + (M.2.2 - 4000) / 4000 + (0) ≤ 600000; omega, by show 13528 + 108 * gN C1 + 2 * (gE C1 - 256) + 2 * (M.2.2 - 4000) + (0) ≤ 7302250; omega⟩) hS (fun q _ h => hFc q h) hFc (fun q2 u t H1 locs ht hvm hw hB hz1 hk1 hS => ?_)
  obtain ⟨rfl, rfl, hgm⟩ := hw
  refine W.widen (k := 49 + 7 * gN C1 + (gE C1 - 256) / 256 + (M1.2.2 - 4000) / 4000) (n := 13528 + 108 * gN C1 + 2 * (gE C1 - 256) + 2 * (M1.2.2 - 4000)) (by omega) (by omega) ?_
  obtain ⟨hP1, hK1, hD1⟩ := hB
  rw [ht] at hP1
  obtain ⟨hP, hD⟩ := k_joinR hP hD hFc hk1 hP1 hD1
  generalize H1 = H at hP hS ⊢
  refine lv_pop hx hb dL_law_344 rfl ?_
  refine lv_goto (tgt := 516) hx hb dL_law_345 (by decide) ?_
  exact kk ea pa ad _ _ hP hD hS
set_option maxHeartbeats 4000000 in
set_option maxRecDepth 100000 in
theorem lc_8 {p : Program} {e : Env} {s : State} {m : MethodId} {below : List Frame} {meth : Method} {c : Code} {l : Launch} {b L : Nat} {xs : Nat → Int32} (X0 : lw_At p s m meth c b L xs) {D : va_G} {A : Nat → Prop} (hA : ∀ q : Nat, s.heap.size ≤ q → A q) (hAf : ∀ q : Nat, A q → s.heap.size ≤ q) {cI cJ cO cZ : ClassId} {h gm : Nat} {xa : Nat → Nat} {ea : Nat} {pa : Nat → Nat → Nat} {ad : Nat → Nat} {C : CS} {M : MS} {i : Int32} {H : Heap} {locs : List Loc} {ls : Array Slot} (hi : 0 ≤ i.toInt ∧ i.toInt + 4 ≤ L) (hL : L ≤ 2048) (hbd : lbd C M) (hK : va_K D vwCl [(cI, .int), (cO, .object RX0), (cJ, .long), (cZ, .boolean)] s) (hP : va_P D vwCl (cW cI cJ cO h xa ea pa C ++ mW cI cZ gm ad M) H) (hD : va_D A (cW cI cJ cO h xa ea pa C ++ mW cI cZ gm ad M)) (hS : va_S A s.heap H locs) (hl : lv_has ls 4 [(3, .int i), (2, .ref gm), (1, .ref h), (0, .ref b)]) {q1 q2 : Int32} {C1 : CS} {M1 : MS} (h1 : f_X3_register (xs (i + 1).toNatClampNeg) C = some (q1, C1)) (h2 : f_X4_register (xs (i + 1).toNatClampNeg) M = some (q2, M1)) (kk : ∀ (ea : Nat) (pa : Nat → Nat → Nat) (ad : Nat → Nat) (H : Heap) (locs : List Loc), va_P D vwCl (cW cI cJ cO h xa ea pa C1 ++ mW cI cZ gm ad M1) H → va_D A (cW cI cJ cO h xa ea pa C1 ++ mW cI cZ gm ad M1) → va_S A s.heap H locs → W p l e room_1 s m #[Value.ref b] below meth c H locs (49 + 7 * gN C1 + (gE C1 - 256) / 256 + (M1.2.2 - 4000) / 4000) (13528 + 108 * gN C1 + 2 * (gE C1 - 256) + 2 * (M1.2.2 - 4000)) (lw_Z below #[Value.ref b] s) (F0 m 516 ls [])) : W p l e room_1 s m #[Value.ref b] below meth c H locs (49 + 7 * gN C + (gE C - 256) / 256 + (M.2.2 - 4000) / 4000) (13528 + 108 * gN C + 2 * (gE C - 256) + 2 * (M.2.2 - 4000)) (lw_Z below #[Value.ref b] s) (F0 m 348 ls []) := by
  obtain ⟨hx, hb, hr, hml, hown, hts0, hX, hbl, hlocks, hgv⟩ := id X0
  have hts : ∀ w ∈ wsL_law, w.before #[Value.ref b] s = true := fun w h => hts0 w (wsL_law_in w h)
  have hown : s.vm.findClass RL = some m.cls := hown
  have hbA : ¬ A b := fun h => absurd (hAf b h) (Nat.not_le.mpr hbl)
  have hLi : (Int32.ofNat L).toInt = (L : Int) := nI_toInt (n := L) (by omega)
  obtain ⟨hb1, hb2, hb3, hb4, hb5⟩ := id hbd
  have hl1 : (1 : Int32).toInt = 1 := by decide
  have hij1 := k_add (x := i) (y := 1) (by omega) (by omega)
  have hl2 : (2 : Int32).toInt = 2 := by decide
  have hij2 := k_add (x := i) (y := 2) (by omega) (by omega)
  have hl3 : (3 : Int32).toInt = 3 := by decide
  have hij3 := k_add (x := i) (y := 3) (by omega) (by omega)
  refine lv_aload_n hx hb dL_law_348 rfl (lv_at hl 2 rfl) ?_
  refine lv_aload_n hx hb dL_law_349 rfl (lv_at hl 3 rfl) ?_
  refine lv_iload_n hx hb dL_law_350 rfl (lv_at hl 0 rfl) ?_
  refine lv_iconst (v := 1) hx hb dL_law_351 (by decide) ?_
  refine lv_iadd hx hb dL_law_352 ?_
  refine va_sld hx hb hX hbl hbA hS (k_in (by omega) (by omega)) dL_law_353 ?_
  have hPc := k_appL hP
  have hDc := k_appDL hD
  have hKc := hK.sub (tys' := [(cI, .int), (cO, .object RX0), (cJ, .long)]) [0, 1, 2] rfl
  have hFc := k_free hDc hS hA
  refine va_calli (va_runV (As := [.int (xs (i + 1).toNatClampNeg)]) (rest := []) ⟨hx, hb, hml, hown, hts⟩ (c_X3_register (l := l) (D := D) (cI := cI) (cJ := cJ) (cO := cO) (h := h) (xa := xa) (ea0 := ea) (pa0 := pa) (hf := h1)) (cwV 1 hts gL_law_X3_register rfl rfl rfl (by decide +kernel) ⟨Nat.le_of_ble_eq_true rfl, Nat.le_of_ble_eq_true rfl⟩) ⟨k_blind, va_recv hKc hPc (ci := 3) (q0 := 0) rfl rfl, fun U hU hW => ⟨rfl, k_pre hU hW hPc hKc hDc⟩⟩ rfl rfl hl.1 rfl (lv_room (Nat.le_of_ble_eq_true rfl)) dL_law_354 ⟨by show 49 + 7 * gN C + (gE C - 256) / 256 + (M.2.2 - 4000) / 4000 + (0) ≤ 600000; omega, by show 13528 + 108 * gN C + 2 * (gE C - 256) + 2 * (M.2.2 - 4000) + (0) ≤ 7302250; omega⟩) hS (fun q _ h => hFc q h) hFc (fun q1 u t H1 locs ht hvm hw hB hz1 hk1 hS => ?_)
  obtain ⟨rfl, rfl, hgx, hhx⟩ := hw
  refine W.widen (k := 49 + 7 * gN C1 + (gE C1 - 256) / 256 + (M.2.2 - 4000) / 4000) (n := 13528 + 108 * gN C1 + 2 * (gE C1 - 256) + 2 * (M.2.2 - 4000)) (by omega) (by omega) ?_
  obtain ⟨hP1, hK1, hD1⟩ := hB
  rw [ht] at hP1
  obtain ⟨hP, hD⟩ := k_joinL hP hD hFc hk1 hP1 hD1
  generalize H1 = H at hP hS ⊢
  refine lv_pop hx hb dL_law_357 rfl ?_
  refine lv_aload_n hx hb dL_law_358 rfl (lv_at hl 1 rfl) ?_
  refine lv_aload_n hx hb dL_law_359 rfl (lv_at hl 3 rfl) ?_
  refine lv_iload_n hx hb dL_law_360 rfl (lv_at hl 0 rfl) ?_
  refine lv_iconst (v := 1) hx hb dL_law_361 (by decide) ?_
  refine lv_iadd hx hb dL_law_362 ?_
  refine va_sld hx hb hX hbl hbA hS (k_in (by omega) (by omega)) dL_law_363 ?_
  have hPc := k_appR hP
  have hDc := k_appDR hD
  have hKc := hK.sub (tys' := [(cI, .int), (cZ, .boolean)]) [0, 3] rfl
  have hFc := k_free hDc hS hA
  refine va_calli (va_runV (As := [.int (xs (i + 1).toNatClampNeg)]) (rest := []) ⟨hx, hb, hml, hown, hts⟩ (c_X4_register (l := l) (D := D) (cI := cI) (cZ := cZ) (h := gm) (ad := ad) (hf := h2)) (cwV 1 hts gL_law_X4_register rfl rfl rfl (by decide +kernel) ⟨Nat.le_of_ble_eq_true rfl, Nat.le_of_ble_eq_true rfl⟩) ⟨k_blind, va_recv hKc hPc (ci := 4) (q0 := 0) rfl rfl, fun U hU hW => ⟨rfl, k_pre hU hW hPc hKc hDc⟩⟩ rfl rfl hl.1 rfl (lv_room (Nat.le_of_ble_eq_true rfl)) dL_law_364 ⟨by show 49 + 7 * gN C1 + (gE C1 - 256) / 256 + (M.2.2 - 4000) / 4000 + (0) ≤ 600000; omega, by show 13528 + 108 * gN C1 + 2 * (gE C1 - 256) + 2 * (M.2.2 - 4000) + (0) ≤ 7302250; omega⟩) hS (fun q _ h => hFc q h) hFc (fun q2 u t H1 locs ht hvm hw hB hz1 hk1 hS => ?_)
  obtain ⟨rfl, rfl, hgm⟩ := hw
  refine W.widen (k := 49 + 7 * gN C1 + (gE C1 - 256) / 256 + (M1.2.2 - 4000) / 4000) (n := 13528 + 108 * gN C1 + 2 * (gE C1 - 256) + 2 * (M1.2.2 - 4000)) (by omega) (by omega) ?_
  obtain ⟨hP1, hK1, hD1⟩ := hB
  rw [ht] at hP1
  obtain ⟨hP, hD⟩ := k_joinR hP hD hFc hk1 hP1 hD1
  generalize H1 = H at hP hS ⊢
  refine lv_pop hx hb dL_law_367 rfl ?_
  refine lv_goto (tgt := 516) hx hb dL_law_368 (by decide) ?_
  exact kk ea pa ad _ _ hP hD hS
set_option maxHeartbeats 4000000 in
set_option maxRecDepth 100000 in
theorem lc_9 {p : Program} {e : Env} {s : State} {m : MethodId} {below : List Frame} {meth : Method} {c : Code} {l : Launch} {b L : Nat} {xs : Nat → Int32} (X0 : lw_At p s m meth c b L xs) {D : va_G} {A : Nat → Prop} (hA : ∀ q : Nat, s.heap.size ≤ q → A q) (hAf : ∀ q : Nat, A q → s.heap.size ≤ q) {cI cJ cO cZ : ClassId} {h gm : Nat} {xa : Nat → Nat} {ea : Nat} {pa : Nat → Nat → Nat} {ad : Nat → Nat} {C : CS} {M : MS} {i : Int32} {H : Heap} {locs : List Loc} {ls : Array Slot} (hi : 0 ≤ i.toInt ∧ i.toInt + 4 ≤ L) (hL : L ≤ 2048) (hbd : lbd C M) (hK : va_K D vwCl [(cI, .int), (cO, .object RX0), (cJ, .long), (cZ, .boolean)] s) (hP : va_P D vwCl (cW cI cJ cO h xa ea pa C ++ mW cI cZ gm ad M) H) (hD : va_D A (cW cI cJ cO h xa ea pa C ++ mW cI cZ gm ad M)) (hS : va_S A s.heap H locs) (hl : lv_has ls 4 [(3, .int i), (2, .ref gm), (1, .ref h), (0, .ref b)]) {q1 q2 : Int32} {C1 : CS} {M1 : MS} (h1 : f_X3_holds (xs (i + 1).toNatClampNeg) (xs (i + 2).toNatClampNeg) C = some (q1, C1)) (h2 : f_X4_holds (xs (i + 1).toNatClampNeg) (xs (i + 2).toNatClampNeg) M = some (q2, M1)) (kk : ∀ (ea : Nat) (pa : Nat → Nat → Nat) (ad : Nat → Nat) (H : Heap) (locs : List Loc), va_P D vwCl (cW cI cJ cO h xa ea pa C1 ++ mW cI cZ gm ad M1) H → va_D A (cW cI cJ cO h xa ea pa C1 ++ mW cI cZ gm ad M1) → va_S A s.heap H locs → W p l e room_1 s m #[Value.ref b] below meth c H locs (49 + 7 * gN C1 + (gE C1 - 256) / 256 + (M1.2.2 - 4000) / 4000) (13528 + 108 * gN C1 + 2 * (gE C1 - 256) + 2 * (M1.2.2 - 4000)) (lw_Z below #[Value.ref b] s) (F0 m 516 ls [])) : W p l e room_1 s m #[Value.ref b] below meth c H locs (49 + 7 * gN C + (gE C - 256) / 256 + (M.2.2 - 4000) / 4000) (13528 + 108 * gN C + 2 * (gE C - 256) + 2 * (M.2.2 - 4000)) (lw_Z below #[Value.ref b] s) (F0 m 371 ls []) := by
  obtain ⟨hx, hb, hr, hml, hown, hts0, hX, hbl, hlocks, hgv⟩ := id X0
  have hts : ∀ w ∈ wsL_law, w.before #[Value.ref b] s = true := fun w h => hts0 w (wsL_law_in w h)
  have hown : s.vm.findClass RL = some m.cls := hown
  have hbA : ¬ A b := fun h => absurd (hAf b h) (Nat.not_le.mpr hbl)
  have hLi : (Int32.ofNat L).toInt = (L : Int) := nI_toInt (n := L) (by omega)
  obtain ⟨hb1, hb2, hb3, hb4, hb5⟩ := id hbd
  have hl1 : (1 : Int32).toInt = 1 := by decide
  have hij1 := k_add (x := i) (y := 1) (by omega) (by omega)
  have hl2 : (2 : Int32).toInt = 2 := by decide
  have hij2 := k_add (x := i) (y := 2) (by omega) (by omega)
  have hl3 : (3 : Int32).toInt = 3 := by decide
  have hij3 := k_add (x := i) (y := 3) (by omega) (by omega)
  refine lv_aload_n hx hb dL_law_371 rfl (lv_at hl 2 rfl) ?_
  refine lv_aload_n hx hb dL_law_372 rfl (lv_at hl 3 rfl) ?_
  refine lv_iload_n hx hb dL_law_373 rfl (lv_at hl 0 rfl) ?_
  refine lv_iconst (v := 1) hx hb dL_law_374 (by decide) ?_
  refine lv_iadd hx hb dL_law_375 ?_
  refine va_sld hx hb hX hbl hbA hS (k_in (by omega) (by omega)) dL_law_376 ?_
  refine lv_aload_n hx hb dL_law_377 rfl (lv_at hl 3 rfl) ?_
  refine lv_iload_n hx hb dL_law_378 rfl (lv_at hl 0 rfl) ?_
  refine lv_iconst (v := 2) hx hb dL_law_379 (by decide) ?_
  refine lv_iadd hx hb dL_law_380 ?_
  refine va_sld hx hb hX hbl hbA hS (k_in (by omega) (by omega)) dL_law_381 ?_
  have hPc := k_appL hP
  have hDc := k_appDL hD
  have hKc := hK.sub (tys' := [(cI, .int), (cO, .object RX0), (cJ, .long)]) [0, 1, 2] rfl
  have hFc := k_free hDc hS hA
  refine va_calli (va_runV (As := [.int (xs (i + 1).toNatClampNeg), .int (xs (i + 2).toNatClampNeg)]) (rest := []) ⟨hx, hb, hml, hown, hts⟩ (c_X3_holds (l := l) (D := D) (cI := cI) (cJ := cJ) (cO := cO) (h := h) (xa := xa) (ea0 := ea) (pa0 := pa) (hf := h1)) (cwV 2 hts gL_law_X3_holds rfl rfl rfl (by decide +kernel) ⟨Nat.le_of_ble_eq_true rfl, Nat.le_of_ble_eq_true rfl⟩) ⟨k_blind, va_recv hKc hPc (ci := 3) (q0 := 0) rfl rfl, fun U hU hW => ⟨rfl, k_pre hU hW hPc hKc hDc⟩⟩ rfl rfl hl.1 rfl (lv_room (Nat.le_of_ble_eq_true rfl)) dL_law_382 ⟨by show 49 + 7 * gN C + (gE C - 256) / 256 + (M.2.2 - 4000) / 4000 + (0) ≤ 600000; omega, by show 13528 + 108 * gN C + 2 * (gE C - 256) + 2 * (M.2.2 - 4000) + (0) ≤ 7302250; omega⟩) hS (fun q _ h => hFc q h) hFc (fun q1 u t H1 locs ht hvm hw hB hz1 hk1 hS => ?_)
  obtain ⟨rfl, rfl, hgx, hhx⟩ := hw
  refine W.widen (k := 49 + 7 * gN C1 + (gE C1 - 256) / 256 + (M.2.2 - 4000) / 4000) (n := 13528 + 108 * gN C1 + 2 * (gE C1 - 256) + 2 * (M.2.2 - 4000)) (by omega) (by omega) ?_
  obtain ⟨hP1, hK1, hD1⟩ := hB
  rw [ht] at hP1
  obtain ⟨hP, hD⟩ := k_joinL hP hD hFc hk1 hP1 hD1
  generalize H1 = H at hP hS ⊢
  refine lv_pop hx hb dL_law_385 rfl ?_
  refine lv_aload_n hx hb dL_law_386 rfl (lv_at hl 1 rfl) ?_
  refine lv_aload_n hx hb dL_law_387 rfl (lv_at hl 3 rfl) ?_
  refine lv_iload_n hx hb dL_law_388 rfl (lv_at hl 0 rfl) ?_
  refine lv_iconst (v := 1) hx hb dL_law_389 (by decide) ?_
  refine lv_iadd hx hb dL_law_390 ?_
  refine va_sld hx hb hX hbl hbA hS (k_in (by omega) (by omega)) dL_law_391 ?_
  refine lv_aload_n hx hb dL_law_392 rfl (lv_at hl 3 rfl) ?_
  refine lv_iload_n hx hb dL_law_393 rfl (lv_at hl 0 rfl) ?_
  refine lv_iconst (v := 2) hx hb dL_law_394 (by decide) ?_
  refine lv_iadd hx hb dL_law_395 ?_
  refine va_sld hx hb hX hbl hbA hS (k_in (by omega) (by omega)) dL_law_396 ?_
  have hPc := k_appR hP
  have hDc := k_appDR hD
  have hKc := hK.sub (tys' := [(cI, .int), (cZ, .boolean)]) [0, 3] rfl
  have hFc := k_free hDc hS hA
  refine va_calli (va_runV (As := [.int (xs (i + 1).toNatClampNeg), .int (xs (i + 2).toNatClampNeg)]) (rest := []) ⟨hx, hb, hml, hown, hts⟩ (c_X4_holds (l := l) (D := D) (cI := cI) (cZ := cZ) (h := gm) (ad := ad) (hf := h2)) (cwV 2 hts gL_law_X4_holds rfl rfl rfl (by decide +kernel) ⟨Nat.le_of_ble_eq_true rfl, Nat.le_of_ble_eq_true rfl⟩) ⟨k_blind, va_recv hKc hPc (ci := 4) (q0 := 0) rfl rfl, fun U hU hW => ⟨rfl, k_pre hU hW hPc hKc hDc⟩⟩ rfl rfl hl.1 rfl (lv_room (Nat.le_of_ble_eq_true rfl)) dL_law_397 ⟨by show 49 + 7 * gN C1 + (gE C1 - 256) / 256 + (M.2.2 - 4000) / 4000 + (0) ≤ 600000; omega, by show 13528 + 108 * gN C1 + 2 * (gE C1 - 256) + 2 * (M.2.2 - 4000) + (0) ≤ 7302250; omega⟩) hS (fun q _ h => hFc q h) hFc (fun q2 u t H1 locs ht hvm hw hB hz1 hk1 hS => ?_)
  obtain ⟨rfl, rfl, hgm⟩ := hw
  refine W.widen (k := 49 + 7 * gN C1 + (gE C1 - 256) / 256 + (M1.2.2 - 4000) / 4000) (n := 13528 + 108 * gN C1 + 2 * (gE C1 - 256) + 2 * (M1.2.2 - 4000)) (by omega) (by omega) ?_
  obtain ⟨hP1, hK1, hD1⟩ := hB
  rw [ht] at hP1
  obtain ⟨hP, hD⟩ := k_joinR hP hD hFc hk1 hP1 hD1
  generalize H1 = H at hP hS ⊢
  refine lv_pop hx hb dL_law_400 rfl ?_
  refine lv_goto (tgt := 516) hx hb dL_law_401 (by decide) ?_
  exact kk ea pa ad _ _ hP hD hS
set_option maxHeartbeats 4000000 in
set_option maxRecDepth 100000 in
theorem lc_10 {p : Program} {e : Env} {s : State} {m : MethodId} {below : List Frame} {meth : Method} {c : Code} {l : Launch} {b L : Nat} {xs : Nat → Int32} (X0 : lw_At p s m meth c b L xs) {D : va_G} {A : Nat → Prop} (hA : ∀ q : Nat, s.heap.size ≤ q → A q) (hAf : ∀ q : Nat, A q → s.heap.size ≤ q) {cI cJ cO cZ : ClassId} {h gm : Nat} {xa : Nat → Nat} {ea : Nat} {pa : Nat → Nat → Nat} {ad : Nat → Nat} {C : CS} {M : MS} {i : Int32} {H : Heap} {locs : List Loc} {ls : Array Slot} (hi : 0 ≤ i.toInt ∧ i.toInt + 4 ≤ L) (hL : L ≤ 2048) (hbd : lbd C M) (hK : va_K D vwCl [(cI, .int), (cO, .object RX0), (cJ, .long), (cZ, .boolean)] s) (hP : va_P D vwCl (cW cI cJ cO h xa ea pa C ++ mW cI cZ gm ad M) H) (hD : va_D A (cW cI cJ cO h xa ea pa C ++ mW cI cZ gm ad M)) (hS : va_S A s.heap H locs) (hl : lv_has ls 4 [(3, .int i), (2, .ref gm), (1, .ref h), (0, .ref b)]) {q1 q2 : Int32} {C1 : CS} {M1 : MS} (h1 : f_X3_value (xs (i + 1).toNatClampNeg) (xs (i + 2).toNatClampNeg) C = some (q1, C1)) (h2 : f_X4_value (xs (i + 1).toNatClampNeg) (xs (i + 2).toNatClampNeg) M = some (q2, M1)) (kk : ∀ (ea : Nat) (pa : Nat → Nat → Nat) (ad : Nat → Nat) (H : Heap) (locs : List Loc), va_P D vwCl (cW cI cJ cO h xa ea pa C1 ++ mW cI cZ gm ad M1) H → va_D A (cW cI cJ cO h xa ea pa C1 ++ mW cI cZ gm ad M1) → va_S A s.heap H locs → W p l e room_1 s m #[Value.ref b] below meth c H locs (49 + 7 * gN C1 + (gE C1 - 256) / 256 + (M1.2.2 - 4000) / 4000) (13528 + 108 * gN C1 + 2 * (gE C1 - 256) + 2 * (M1.2.2 - 4000)) (lw_Z below #[Value.ref b] s) (F0 m 516 ls [])) : W p l e room_1 s m #[Value.ref b] below meth c H locs (49 + 7 * gN C + (gE C - 256) / 256 + (M.2.2 - 4000) / 4000) (13528 + 108 * gN C + 2 * (gE C - 256) + 2 * (M.2.2 - 4000)) (lw_Z below #[Value.ref b] s) (F0 m 404 ls []) := by
  obtain ⟨hx, hb, hr, hml, hown, hts0, hX, hbl, hlocks, hgv⟩ := id X0
  have hts : ∀ w ∈ wsL_law, w.before #[Value.ref b] s = true := fun w h => hts0 w (wsL_law_in w h)
  have hown : s.vm.findClass RL = some m.cls := hown
  have hbA : ¬ A b := fun h => absurd (hAf b h) (Nat.not_le.mpr hbl)
  have hLi : (Int32.ofNat L).toInt = (L : Int) := nI_toInt (n := L) (by omega)
  obtain ⟨hb1, hb2, hb3, hb4, hb5⟩ := id hbd
  have hl1 : (1 : Int32).toInt = 1 := by decide
  have hij1 := k_add (x := i) (y := 1) (by omega) (by omega)
  have hl2 : (2 : Int32).toInt = 2 := by decide
  have hij2 := k_add (x := i) (y := 2) (by omega) (by omega)
  have hl3 : (3 : Int32).toInt = 3 := by decide
  have hij3 := k_add (x := i) (y := 3) (by omega) (by omega)
  refine lv_aload_n hx hb dL_law_404 rfl (lv_at hl 2 rfl) ?_
  refine lv_aload_n hx hb dL_law_405 rfl (lv_at hl 3 rfl) ?_
  refine lv_iload_n hx hb dL_law_406 rfl (lv_at hl 0 rfl) ?_
  refine lv_iconst (v := 1) hx hb dL_law_407 (by decide) ?_
  refine lv_iadd hx hb dL_law_408 ?_
  refine va_sld hx hb hX hbl hbA hS (k_in (by omega) (by omega)) dL_law_409 ?_
  refine lv_aload_n hx hb dL_law_410 rfl (lv_at hl 3 rfl) ?_
  refine lv_iload_n hx hb dL_law_411 rfl (lv_at hl 0 rfl) ?_
  refine lv_iconst (v := 2) hx hb dL_law_412 (by decide) ?_
  refine lv_iadd hx hb dL_law_413 ?_
  refine va_sld hx hb hX hbl hbA hS (k_in (by omega) (by omega)) dL_law_414 ?_
  have hPc := k_appL hP
  have hDc := k_appDL hD
  have hKc := hK.sub (tys' := [(cI, .int), (cO, .object RX0), (cJ, .long)]) [0, 1, 2] rfl
  have hFc := k_free hDc hS hA
  refine va_calli (va_runV (As := [.int (xs (i + 1).toNatClampNeg), .int (xs (i + 2).toNatClampNeg)]) (rest := []) ⟨hx, hb, hml, hown, hts⟩ (c_X3_value (l := l) (D := D) (cI := cI) (cJ := cJ) (cO := cO) (h := h) (xa := xa) (ea0 := ea) (pa0 := pa) (hf := h1)) (cwV 2 hts gL_law_X3_value rfl rfl rfl (by decide +kernel) ⟨Nat.le_of_ble_eq_true rfl, Nat.le_of_ble_eq_true rfl⟩) ⟨k_blind, va_recv hKc hPc (ci := 3) (q0 := 0) rfl rfl, fun U hU hW => ⟨rfl, k_pre hU hW hPc hKc hDc⟩⟩ rfl rfl hl.1 rfl (lv_room (Nat.le_of_ble_eq_true rfl)) dL_law_415 ⟨by show 49 + 7 * gN C + (gE C - 256) / 256 + (M.2.2 - 4000) / 4000 + (0) ≤ 600000; omega, by show 13528 + 108 * gN C + 2 * (gE C - 256) + 2 * (M.2.2 - 4000) + (0) ≤ 7302250; omega⟩) hS (fun q _ h => hFc q h) hFc (fun q1 u t H1 locs ht hvm hw hB hz1 hk1 hS => ?_)
  obtain ⟨rfl, rfl, hgx, hhx⟩ := hw
  refine W.widen (k := 49 + 7 * gN C1 + (gE C1 - 256) / 256 + (M.2.2 - 4000) / 4000) (n := 13528 + 108 * gN C1 + 2 * (gE C1 - 256) + 2 * (M.2.2 - 4000)) (by omega) (by omega) ?_
  obtain ⟨hP1, hK1, hD1⟩ := hB
  rw [ht] at hP1
  obtain ⟨hP, hD⟩ := k_joinL hP hD hFc hk1 hP1 hD1
  generalize H1 = H at hP hS ⊢
  refine lv_pop hx hb dL_law_418 rfl ?_
  refine lv_aload_n hx hb dL_law_419 rfl (lv_at hl 1 rfl) ?_
  refine lv_aload_n hx hb dL_law_420 rfl (lv_at hl 3 rfl) ?_
  refine lv_iload_n hx hb dL_law_421 rfl (lv_at hl 0 rfl) ?_
  refine lv_iconst (v := 1) hx hb dL_law_422 (by decide) ?_
  refine lv_iadd hx hb dL_law_423 ?_
  refine va_sld hx hb hX hbl hbA hS (k_in (by omega) (by omega)) dL_law_424 ?_
  refine lv_aload_n hx hb dL_law_425 rfl (lv_at hl 3 rfl) ?_
  refine lv_iload_n hx hb dL_law_426 rfl (lv_at hl 0 rfl) ?_
  refine lv_iconst (v := 2) hx hb dL_law_427 (by decide) ?_
  refine lv_iadd hx hb dL_law_428 ?_
  refine va_sld hx hb hX hbl hbA hS (k_in (by omega) (by omega)) dL_law_429 ?_
  have hPc := k_appR hP
  have hDc := k_appDR hD
  have hKc := hK.sub (tys' := [(cI, .int), (cZ, .boolean)]) [0, 3] rfl
  have hFc := k_free hDc hS hA
  refine va_calli (va_runV (As := [.int (xs (i + 1).toNatClampNeg), .int (xs (i + 2).toNatClampNeg)]) (rest := []) ⟨hx, hb, hml, hown, hts⟩ (c_X4_value (l := l) (D := D) (cI := cI) (cZ := cZ) (h := gm) (ad := ad) (hf := h2)) (cwV 2 hts gL_law_X4_value rfl rfl rfl (by decide +kernel) ⟨Nat.le_of_ble_eq_true rfl, Nat.le_of_ble_eq_true rfl⟩) ⟨k_blind, va_recv hKc hPc (ci := 4) (q0 := 0) rfl rfl, fun U hU hW => ⟨rfl, k_pre hU hW hPc hKc hDc⟩⟩ rfl rfl hl.1 rfl (lv_room (Nat.le_of_ble_eq_true rfl)) dL_law_430 ⟨by show 49 + 7 * gN C1 + (gE C1 - 256) / 256 + (M.2.2 - 4000) / 4000 + (0) ≤ 600000; omega, by show 13528 + 108 * gN C1 + 2 * (gE C1 - 256) + 2 * (M.2.2 - 4000) + (0) ≤ 7302250; omega⟩) hS (fun q _ h => hFc q h) hFc (fun q2 u t H1 locs ht hvm hw hB hz1 hk1 hS => ?_)
  obtain ⟨rfl, rfl, hgm⟩ := hw
  refine W.widen (k := 49 + 7 * gN C1 + (gE C1 - 256) / 256 + (M1.2.2 - 4000) / 4000) (n := 13528 + 108 * gN C1 + 2 * (gE C1 - 256) + 2 * (M1.2.2 - 4000)) (by omega) (by omega) ?_
  obtain ⟨hP1, hK1, hD1⟩ := hB
  rw [ht] at hP1
  obtain ⟨hP, hD⟩ := k_joinR hP hD hFc hk1 hP1 hD1
  generalize H1 = H at hP hS ⊢
  refine lv_pop hx hb dL_law_433 rfl ?_
  refine lv_goto (tgt := 516) hx hb dL_law_434 (by decide) ?_
  exact kk ea pa ad _ _ hP hD hS
set_option maxHeartbeats 4000000 in
set_option maxRecDepth 100000 in
theorem lc_11 {p : Program} {e : Env} {s : State} {m : MethodId} {below : List Frame} {meth : Method} {c : Code} {l : Launch} {b L : Nat} {xs : Nat → Int32} (X0 : lw_At p s m meth c b L xs) {D : va_G} {A : Nat → Prop} (hA : ∀ q : Nat, s.heap.size ≤ q → A q) (hAf : ∀ q : Nat, A q → s.heap.size ≤ q) {cI cJ cO cZ : ClassId} {h gm : Nat} {xa : Nat → Nat} {ea : Nat} {pa : Nat → Nat → Nat} {ad : Nat → Nat} {C : CS} {M : MS} {i : Int32} {H : Heap} {locs : List Loc} {ls : Array Slot} (hi : 0 ≤ i.toInt ∧ i.toInt + 4 ≤ L) (hL : L ≤ 2048) (hbd : lbd C M) (hK : va_K D vwCl [(cI, .int), (cO, .object RX0), (cJ, .long), (cZ, .boolean)] s) (hP : va_P D vwCl (cW cI cJ cO h xa ea pa C ++ mW cI cZ gm ad M) H) (hD : va_D A (cW cI cJ cO h xa ea pa C ++ mW cI cZ gm ad M)) (hS : va_S A s.heap H locs) (hl : lv_has ls 4 [(3, .int i), (2, .ref gm), (1, .ref h), (0, .ref b)]) {q1 q2 : Int32} {C1 : CS} {M1 : MS} (h1 : f_X3_done (xs (i + 1).toNatClampNeg) C = some (q1, C1)) (h2 : f_X4_done (xs (i + 1).toNatClampNeg) M = some (q2, M1)) (kk : ∀ (ea : Nat) (pa : Nat → Nat → Nat) (ad : Nat → Nat) (H : Heap) (locs : List Loc), va_P D vwCl (cW cI cJ cO h xa ea pa C1 ++ mW cI cZ gm ad M1) H → va_D A (cW cI cJ cO h xa ea pa C1 ++ mW cI cZ gm ad M1) → va_S A s.heap H locs → W p l e room_1 s m #[Value.ref b] below meth c H locs (49 + 7 * gN C1 + (gE C1 - 256) / 256 + (M1.2.2 - 4000) / 4000) (13528 + 108 * gN C1 + 2 * (gE C1 - 256) + 2 * (M1.2.2 - 4000)) (lw_Z below #[Value.ref b] s) (F0 m 516 ls [])) : W p l e room_1 s m #[Value.ref b] below meth c H locs (49 + 7 * gN C + (gE C - 256) / 256 + (M.2.2 - 4000) / 4000) (13528 + 108 * gN C + 2 * (gE C - 256) + 2 * (M.2.2 - 4000)) (lw_Z below #[Value.ref b] s) (F0 m 437 ls []) := by
  obtain ⟨hx, hb, hr, hml, hown, hts0, hX, hbl, hlocks, hgv⟩ := id X0
  have hts : ∀ w ∈ wsL_law, w.before #[Value.ref b] s = true := fun w h => hts0 w (wsL_law_in w h)
  have hown : s.vm.findClass RL = some m.cls := hown
  have hbA : ¬ A b := fun h => absurd (hAf b h) (Nat.not_le.mpr hbl)
  have hLi : (Int32.ofNat L).toInt = (L : Int) := nI_toInt (n := L) (by omega)
  obtain ⟨hb1, hb2, hb3, hb4, hb5⟩ := id hbd
  have hl1 : (1 : Int32).toInt = 1 := by decide
  have hij1 := k_add (x := i) (y := 1) (by omega) (by omega)
  have hl2 : (2 : Int32).toInt = 2 := by decide
  have hij2 := k_add (x := i) (y := 2) (by omega) (by omega)
  have hl3 : (3 : Int32).toInt = 3 := by decide
  have hij3 := k_add (x := i) (y := 3) (by omega) (by omega)
  refine lv_aload_n hx hb dL_law_437 rfl (lv_at hl 2 rfl) ?_
  refine lv_aload_n hx hb dL_law_438 rfl (lv_at hl 3 rfl) ?_
  refine lv_iload_n hx hb dL_law_439 rfl (lv_at hl 0 rfl) ?_
  refine lv_iconst (v := 1) hx hb dL_law_440 (by decide) ?_
  refine lv_iadd hx hb dL_law_441 ?_
  refine va_sld hx hb hX hbl hbA hS (k_in (by omega) (by omega)) dL_law_442 ?_
  have hPc := k_appL hP
  have hDc := k_appDL hD
  have hKc := hK.sub (tys' := [(cI, .int), (cO, .object RX0), (cJ, .long)]) [0, 1, 2] rfl
  have hFc := k_free hDc hS hA
  refine va_calli (va_runV (As := [.int (xs (i + 1).toNatClampNeg)]) (rest := []) ⟨hx, hb, hml, hown, hts⟩ (c_X3_done (l := l) (D := D) (cI := cI) (cJ := cJ) (cO := cO) (h := h) (xa := xa) (ea0 := ea) (pa0 := pa) (hf := h1)) (cwV 1 hts gL_law_X3_done rfl rfl rfl (by decide +kernel) ⟨Nat.le_of_ble_eq_true rfl, Nat.le_of_ble_eq_true rfl⟩) ⟨k_blind, va_recv hKc hPc (ci := 3) (q0 := 0) rfl rfl, fun U hU hW => ⟨rfl, k_pre hU hW hPc hKc hDc⟩⟩ rfl rfl hl.1 rfl (lv_room (Nat.le_of_ble_eq_true rfl)) dL_law_443 ⟨by show 49 + 7 * gN C + (gE C - 256) / 256 + (M.2.2 - 4000) / 4000 + (0) ≤ 600000; omega, by show 13528 + 108 * gN C + 2 * (gE C - 256) + 2 * (M.2.2 - 4000) + (0) ≤ 7302250; omega⟩) hS (fun q _ h => hFc q h) hFc (fun q1 u t H1 locs ht hvm hw hB hz1 hk1 hS => ?_)
  obtain ⟨rfl, rfl, hgx, hhx⟩ := hw
  refine W.widen (k := 49 + 7 * gN C1 + (gE C1 - 256) / 256 + (M.2.2 - 4000) / 4000) (n := 13528 + 108 * gN C1 + 2 * (gE C1 - 256) + 2 * (M.2.2 - 4000)) (by omega) (by omega) ?_
  obtain ⟨hP1, hK1, hD1⟩ := hB
  rw [ht] at hP1
  obtain ⟨hP, hD⟩ := k_joinL hP hD hFc hk1 hP1 hD1
  generalize H1 = H at hP hS ⊢
  refine lv_pop hx hb dL_law_446 rfl ?_
  refine lv_aload_n hx hb dL_law_447 rfl (lv_at hl 1 rfl) ?_
  refine lv_aload_n hx hb dL_law_448 rfl (lv_at hl 3 rfl) ?_
  refine lv_iload_n hx hb dL_law_449 rfl (lv_at hl 0 rfl) ?_
  refine lv_iconst (v := 1) hx hb dL_law_450 (by decide) ?_
  refine lv_iadd hx hb dL_law_451 ?_
  refine va_sld hx hb hX hbl hbA hS (k_in (by omega) (by omega)) dL_law_452 ?_
  have hPc := k_appR hP
  have hDc := k_appDR hD
  have hKc := hK.sub (tys' := [(cI, .int), (cZ, .boolean)]) [0, 3] rfl
  have hFc := k_free hDc hS hA
  refine va_calli (va_runV (As := [.int (xs (i + 1).toNatClampNeg)]) (rest := []) ⟨hx, hb, hml, hown, hts⟩ (c_X4_done (l := l) (D := D) (cI := cI) (cZ := cZ) (h := gm) (ad := ad) (hf := h2)) (cwV 1 hts gL_law_X4_done rfl rfl rfl (by decide +kernel) ⟨Nat.le_of_ble_eq_true rfl, Nat.le_of_ble_eq_true rfl⟩) ⟨k_blind, va_recv hKc hPc (ci := 4) (q0 := 0) rfl rfl, fun U hU hW => ⟨rfl, k_pre hU hW hPc hKc hDc⟩⟩ rfl rfl hl.1 rfl (lv_room (Nat.le_of_ble_eq_true rfl)) dL_law_453 ⟨by show 49 + 7 * gN C1 + (gE C1 - 256) / 256 + (M.2.2 - 4000) / 4000 + (0) ≤ 600000; omega, by show 13528 + 108 * gN C1 + 2 * (gE C1 - 256) + 2 * (M.2.2 - 4000) + (0) ≤ 7302250; omega⟩) hS (fun q _ h => hFc q h) hFc (fun q2 u t H1 locs ht hvm hw hB hz1 hk1 hS => ?_)
  obtain ⟨rfl, rfl, hgm⟩ := hw
  refine W.widen (k := 49 + 7 * gN C1 + (gE C1 - 256) / 256 + (M1.2.2 - 4000) / 4000) (n := 13528 + 108 * gN C1 + 2 * (gE C1 - 256) + 2 * (M1.2.2 - 4000)) (by omega) (by omega) ?_
  obtain ⟨hP1, hK1, hD1⟩ := hB
  rw [ht] at hP1
  obtain ⟨hP, hD⟩ := k_joinR hP hD hFc hk1 hP1 hD1
  generalize H1 = H at hP hS ⊢
  refine lv_pop hx hb dL_law_456 rfl ?_
  refine lv_goto (tgt := 516) hx hb dL_law_457 (by decide) ?_
  exact kk ea pa ad _ _ hP hD hS
set_option maxHeartbeats 4000000 in
set_option maxRecDepth 100000 in
theorem lc_12 {p : Program} {e : Env} {s : State} {m : MethodId} {below : List Frame} {meth : Method} {c : Code} {l : Launch} {b L : Nat} {xs : Nat → Int32} (X0 : lw_At p s m meth c b L xs) {D : va_G} {A : Nat → Prop} (hA : ∀ q : Nat, s.heap.size ≤ q → A q) (hAf : ∀ q : Nat, A q → s.heap.size ≤ q) {cI cJ cO cZ : ClassId} {h gm : Nat} {xa : Nat → Nat} {ea : Nat} {pa : Nat → Nat → Nat} {ad : Nat → Nat} {C : CS} {M : MS} {i : Int32} {H : Heap} {locs : List Loc} {ls : Array Slot} (hi : 0 ≤ i.toInt ∧ i.toInt + 4 ≤ L) (hL : L ≤ 2048) (hbd : lbd C M) (hK : va_K D vwCl [(cI, .int), (cO, .object RX0), (cJ, .long), (cZ, .boolean)] s) (hP : va_P D vwCl (cW cI cJ cO h xa ea pa C ++ mW cI cZ gm ad M) H) (hD : va_D A (cW cI cJ cO h xa ea pa C ++ mW cI cZ gm ad M)) (hS : va_S A s.heap H locs) (hl : lv_has ls 4 [(3, .int i), (2, .ref gm), (1, .ref h), (0, .ref b)]) {q1 q2 : Int32} {C1 : CS} {M1 : MS} (h1 : f_X3_log (xs (i + 1).toNatClampNeg) (xs (i + 2).toNatClampNeg) C = some (q1, C1)) (h2 : f_X4_log (xs (i + 1).toNatClampNeg) (xs (i + 2).toNatClampNeg) M = some (q2, M1)) (kk : ∀ (ea : Nat) (pa : Nat → Nat → Nat) (ad : Nat → Nat) (H : Heap) (locs : List Loc), va_P D vwCl (cW cI cJ cO h xa ea pa C1 ++ mW cI cZ gm ad M1) H → va_D A (cW cI cJ cO h xa ea pa C1 ++ mW cI cZ gm ad M1) → va_S A s.heap H locs → W p l e room_1 s m #[Value.ref b] below meth c H locs (49 + 7 * gN C1 + (gE C1 - 256) / 256 + (M1.2.2 - 4000) / 4000) (13528 + 108 * gN C1 + 2 * (gE C1 - 256) + 2 * (M1.2.2 - 4000)) (lw_Z below #[Value.ref b] s) (F0 m 516 ls [])) : W p l e room_1 s m #[Value.ref b] below meth c H locs (49 + 7 * gN C + (gE C - 256) / 256 + (M.2.2 - 4000) / 4000) (13528 + 108 * gN C + 2 * (gE C - 256) + 2 * (M.2.2 - 4000)) (lw_Z below #[Value.ref b] s) (F0 m 460 ls []) := by
  obtain ⟨hx, hb, hr, hml, hown, hts0, hX, hbl, hlocks, hgv⟩ := id X0
  have hts : ∀ w ∈ wsL_law, w.before #[Value.ref b] s = true := fun w h => hts0 w (wsL_law_in w h)
  have hown : s.vm.findClass RL = some m.cls := hown
  have hbA : ¬ A b := fun h => absurd (hAf b h) (Nat.not_le.mpr hbl)
  have hLi : (Int32.ofNat L).toInt = (L : Int) := nI_toInt (n := L) (by omega)
  obtain ⟨hb1, hb2, hb3, hb4, hb5⟩ := id hbd
  have hl1 : (1 : Int32).toInt = 1 := by decide
  have hij1 := k_add (x := i) (y := 1) (by omega) (by omega)
  have hl2 : (2 : Int32).toInt = 2 := by decide
  have hij2 := k_add (x := i) (y := 2) (by omega) (by omega)
  have hl3 : (3 : Int32).toInt = 3 := by decide
  have hij3 := k_add (x := i) (y := 3) (by omega) (by omega)
  refine lv_aload_n hx hb dL_law_460 rfl (lv_at hl 2 rfl) ?_
  refine lv_aload_n hx hb dL_law_461 rfl (lv_at hl 3 rfl) ?_
  refine lv_iload_n hx hb dL_law_462 rfl (lv_at hl 0 rfl) ?_
  refine lv_iconst (v := 1) hx hb dL_law_463 (by decide) ?_
  refine lv_iadd hx hb dL_law_464 ?_
  refine va_sld hx hb hX hbl hbA hS (k_in (by omega) (by omega)) dL_law_465 ?_
  refine lv_aload_n hx hb dL_law_466 rfl (lv_at hl 3 rfl) ?_
  refine lv_iload_n hx hb dL_law_467 rfl (lv_at hl 0 rfl) ?_
  refine lv_iconst (v := 2) hx hb dL_law_468 (by decide) ?_
  refine lv_iadd hx hb dL_law_469 ?_
  refine va_sld hx hb hX hbl hbA hS (k_in (by omega) (by omega)) dL_law_470 ?_
  have hPc := k_appL hP
  have hDc := k_appDL hD
  have hKc := hK.sub (tys' := [(cI, .int), (cO, .object RX0), (cJ, .long)]) [0, 1, 2] rfl
  have hFc := k_free hDc hS hA
  refine va_calli (va_runV (As := [.int (xs (i + 1).toNatClampNeg), .int (xs (i + 2).toNatClampNeg)]) (rest := []) ⟨hx, hb, hml, hown, hts⟩ (c_X3_log (l := l) (D := D) (cI := cI) (cJ := cJ) (cO := cO) (h := h) (xa := xa) (ea0 := ea) (pa0 := pa) (hf := h1)) (cwV 2 hts gL_law_X3_log rfl rfl rfl (by decide +kernel) ⟨Nat.le_of_ble_eq_true rfl, Nat.le_of_ble_eq_true rfl⟩) ⟨k_blind, va_recv hKc hPc (ci := 3) (q0 := 0) rfl rfl, fun U hU hW => ⟨rfl, k_pre hU hW hPc hKc hDc⟩⟩ rfl rfl hl.1 rfl (lv_room (Nat.le_of_ble_eq_true rfl)) dL_law_471 ⟨by show 49 + 7 * gN C + (gE C - 256) / 256 + (M.2.2 - 4000) / 4000 + (0) ≤ 600000; omega, by show 13528 + 108 * gN C + 2 * (gE C - 256) + 2 * (M.2.2 - 4000) + (0) ≤ 7302250; omega⟩) hS (fun q _ h => hFc q h) hFc (fun q1 u t H1 locs ht hvm hw hB hz1 hk1 hS => ?_)
  obtain ⟨rfl, rfl, hgx, hhx⟩ := hw
  refine W.widen (k := 49 + 7 * gN C1 + (gE C1 - 256) / 256 + (M.2.2 - 4000) / 4000) (n := 13528 + 108 * gN C1 + 2 * (gE C1 - 256) + 2 * (M.2.2 - 4000)) (by omega) (by omega) ?_
  obtain ⟨hP1, hK1, hD1⟩ := hB
  rw [ht] at hP1
  obtain ⟨hP, hD⟩ := k_joinL hP hD hFc hk1 hP1 hD1
  generalize H1 = H at hP hS ⊢
  refine lv_pop hx hb dL_law_474 rfl ?_
  refine lv_aload_n hx hb dL_law_475 rfl (lv_at hl 1 rfl) ?_
  refine lv_aload_n hx hb dL_law_476 rfl (lv_at hl 3 rfl) ?_
  refine lv_iload_n hx hb dL_law_477 rfl (lv_at hl 0 rfl) ?_
  refine lv_iconst (v := 1) hx hb dL_law_478 (by decide) ?_
  refine lv_iadd hx hb dL_law_479 ?_
  refine va_sld hx hb hX hbl hbA hS (k_in (by omega) (by omega)) dL_law_480 ?_
  refine lv_aload_n hx hb dL_law_481 rfl (lv_at hl 3 rfl) ?_
  refine lv_iload_n hx hb dL_law_482 rfl (lv_at hl 0 rfl) ?_
  refine lv_iconst (v := 2) hx hb dL_law_483 (by decide) ?_
  refine lv_iadd hx hb dL_law_484 ?_
  refine va_sld hx hb hX hbl hbA hS (k_in (by omega) (by omega)) dL_law_485 ?_
  have hPc := k_appR hP
  have hDc := k_appDR hD
  have hKc := hK.sub (tys' := [(cI, .int), (cZ, .boolean)]) [0, 3] rfl
  have hFc := k_free hDc hS hA
  refine va_calli (va_runV (As := [.int (xs (i + 1).toNatClampNeg), .int (xs (i + 2).toNatClampNeg)]) (rest := []) ⟨hx, hb, hml, hown, hts⟩ (c_X4_log (l := l) (D := D) (cI := cI) (cZ := cZ) (h := gm) (ad := ad) (hf := h2)) (cwV 2 hts gL_law_X4_log rfl rfl rfl (by decide +kernel) ⟨Nat.le_of_ble_eq_true rfl, Nat.le_of_ble_eq_true rfl⟩) ⟨k_blind, va_recv hKc hPc (ci := 4) (q0 := 0) rfl rfl, fun U hU hW => ⟨rfl, k_pre hU hW hPc hKc hDc⟩⟩ rfl rfl hl.1 rfl (lv_room (Nat.le_of_ble_eq_true rfl)) dL_law_486 ⟨by show 49 + 7 * gN C1 + (gE C1 - 256) / 256 + (M.2.2 - 4000) / 4000 + (0) ≤ 600000; omega, by show 13528 + 108 * gN C1 + 2 * (gE C1 - 256) + 2 * (M.2.2 - 4000) + (0) ≤ 7302250; omega⟩) hS (fun q _ h => hFc q h) hFc (fun q2 u t H1 locs ht hvm hw hB hz1 hk1 hS => ?_)
  obtain ⟨rfl, rfl, hgm⟩ := hw
  refine W.widen (k := 49 + 7 * gN C1 + (gE C1 - 256) / 256 + (M1.2.2 - 4000) / 4000) (n := 13528 + 108 * gN C1 + 2 * (gE C1 - 256) + 2 * (M1.2.2 - 4000)) (by omega) (by omega) ?_
  obtain ⟨hP1, hK1, hD1⟩ := hB
  rw [ht] at hP1
  obtain ⟨hP, hD⟩ := k_joinR hP hD hFc hk1 hP1 hD1
  generalize H1 = H at hP hS ⊢
  refine lv_pop hx hb dL_law_489 rfl ?_
  refine lv_goto (tgt := 516) hx hb dL_law_490 (by decide) ?_
  exact kk ea pa ad _ _ hP hD hS
set_option maxHeartbeats 4000000 in
set_option maxRecDepth 100000 in
theorem lc_13 {p : Program} {e : Env} {s : State} {m : MethodId} {below : List Frame} {meth : Method} {c : Code} {l : Launch} {b L : Nat} {xs : Nat → Int32} (X0 : lw_At p s m meth c b L xs) {D : va_G} {A : Nat → Prop} (hA : ∀ q : Nat, s.heap.size ≤ q → A q) (hAf : ∀ q : Nat, A q → s.heap.size ≤ q) {cI cJ cO cZ : ClassId} {h gm : Nat} {xa : Nat → Nat} {ea : Nat} {pa : Nat → Nat → Nat} {ad : Nat → Nat} {C : CS} {M : MS} {i : Int32} {H : Heap} {locs : List Loc} {ls : Array Slot} (hi : 0 ≤ i.toInt ∧ i.toInt + 4 ≤ L) (hL : L ≤ 2048) (hbd : lbd C M) (hK : va_K D vwCl [(cI, .int), (cO, .object RX0), (cJ, .long), (cZ, .boolean)] s) (hP : va_P D vwCl (cW cI cJ cO h xa ea pa C ++ mW cI cZ gm ad M) H) (hD : va_D A (cW cI cJ cO h xa ea pa C ++ mW cI cZ gm ad M)) (hS : va_S A s.heap H locs) (hl : lv_has ls 4 [(3, .int i), (2, .ref gm), (1, .ref h), (0, .ref b)]) {q1 q2 : Int32} {C1 : CS} {M1 : MS} (h1 : f_X3_count (xs (i + 1).toNatClampNeg) C = some (q1, C1)) (h2 : f_X4_count (xs (i + 1).toNatClampNeg) M = some (q2, M1)) (hc : q1 = q2) (kk : ∀ (ea : Nat) (pa : Nat → Nat → Nat) (ad : Nat → Nat) (H : Heap) (locs : List Loc), va_P D vwCl (cW cI cJ cO h xa ea pa C1 ++ mW cI cZ gm ad M1) H → va_D A (cW cI cJ cO h xa ea pa C1 ++ mW cI cZ gm ad M1) → va_S A s.heap H locs → W p l e room_1 s m #[Value.ref b] below meth c H locs (49 + 7 * gN C1 + (gE C1 - 256) / 256 + (M1.2.2 - 4000) / 4000) (13528 + 108 * gN C1 + 2 * (gE C1 - 256) + 2 * (M1.2.2 - 4000)) (lw_Z below #[Value.ref b] s) (F0 m 516 ls [])) : W p l e room_1 s m #[Value.ref b] below meth c H locs (49 + 7 * gN C + (gE C - 256) / 256 + (M.2.2 - 4000) / 4000) (13528 + 108 * gN C + 2 * (gE C - 256) + 2 * (M.2.2 - 4000)) (lw_Z below #[Value.ref b] s) (F0 m 493 ls []) := by
  obtain ⟨hx, hb, hr, hml, hown, hts0, hX, hbl, hlocks, hgv⟩ := id X0
  have hts : ∀ w ∈ wsL_law, w.before #[Value.ref b] s = true := fun w h => hts0 w (wsL_law_in w h)
  have hown : s.vm.findClass RL = some m.cls := hown
  have hbA : ¬ A b := fun h => absurd (hAf b h) (Nat.not_le.mpr hbl)
  have hLi : (Int32.ofNat L).toInt = (L : Int) := nI_toInt (n := L) (by omega)
  obtain ⟨hb1, hb2, hb3, hb4, hb5⟩ := id hbd
  have hl1 : (1 : Int32).toInt = 1 := by decide
  have hij1 := k_add (x := i) (y := 1) (by omega) (by omega)
  have hl2 : (2 : Int32).toInt = 2 := by decide
  have hij2 := k_add (x := i) (y := 2) (by omega) (by omega)
  have hl3 : (3 : Int32).toInt = 3 := by decide
  have hij3 := k_add (x := i) (y := 3) (by omega) (by omega)
  refine lv_aload_n hx hb dL_law_493 rfl (lv_at hl 2 rfl) ?_
  refine lv_aload_n hx hb dL_law_494 rfl (lv_at hl 3 rfl) ?_
  refine lv_iload_n hx hb dL_law_495 rfl (lv_at hl 0 rfl) ?_
  refine lv_iconst (v := 1) hx hb dL_law_496 (by decide) ?_
  refine lv_iadd hx hb dL_law_497 ?_
  refine va_sld hx hb hX hbl hbA hS (k_in (by omega) (by omega)) dL_law_498 ?_
  have hPc := k_appL hP
  have hDc := k_appDL hD
  have hKc := hK.sub (tys' := [(cI, .int), (cO, .object RX0), (cJ, .long)]) [0, 1, 2] rfl
  have hFc := k_free hDc hS hA
  refine va_calli (va_runV (As := [.int (xs (i + 1).toNatClampNeg)]) (rest := []) ⟨hx, hb, hml, hown, hts⟩ (c_X3_count (l := l) (D := D) (cI := cI) (cJ := cJ) (cO := cO) (h := h) (xa := xa) (ea0 := ea) (pa0 := pa) (hf := h1)) (cwV 1 hts gL_law_X3_count rfl rfl rfl (by decide +kernel) ⟨Nat.le_of_ble_eq_true rfl, Nat.le_of_ble_eq_true rfl⟩) ⟨k_blind, va_recv hKc hPc (ci := 3) (q0 := 0) rfl rfl, fun U hU hW => ⟨rfl, k_pre hU hW hPc hKc hDc⟩⟩ rfl rfl hl.1 rfl (lv_room (Nat.le_of_ble_eq_true rfl)) dL_law_499 ⟨by show 49 + 7 * gN C + (gE C - 256) / 256 + (M.2.2 - 4000) / 4000 + (0) ≤ 600000; omega, by show 13528 + 108 * gN C + 2 * (gE C - 256) + 2 * (M.2.2 - 4000) + (0) ≤ 7302250; omega⟩) hS (fun q _ h => hFc q h) hFc (fun q1 u t H1 locs ht hvm hw hB hz1 hk1 hS => ?_)
  obtain ⟨rfl, rfl, hgx, hhx⟩ := hw
  refine W.widen (k := 49 + 7 * gN C1 + (gE C1 - 256) / 256 + (M.2.2 - 4000) / 4000) (n := 13528 + 108 * gN C1 + 2 * (gE C1 - 256) + 2 * (M.2.2 - 4000)) (by omega) (by omega) ?_
  obtain ⟨hP1, hK1, hD1⟩ := hB
  rw [ht] at hP1
  obtain ⟨hP, hD⟩ := k_joinL hP hD hFc hk1 hP1 hD1
  generalize H1 = H at hP hS ⊢
  refine lv_aload_n hx hb dL_law_502 rfl (lv_at hl 1 rfl) ?_
  refine lv_aload_n hx hb dL_law_503 rfl (lv_at hl 3 rfl) ?_
  refine lv_iload_n hx hb dL_law_504 rfl (lv_at hl 0 rfl) ?_
  refine lv_iconst (v := 1) hx hb dL_law_505 (by decide) ?_
  refine lv_iadd hx hb dL_law_506 ?_
  refine va_sld hx hb hX hbl hbA hS (k_in (by omega) (by omega)) dL_law_507 ?_
  have hPc := k_appR hP
  have hDc := k_appDR hD
  have hKc := hK.sub (tys' := [(cI, .int), (cZ, .boolean)]) [0, 3] rfl
  have hFc := k_free hDc hS hA
  refine va_calli (va_runV (As := [.int (xs (i + 1).toNatClampNeg)]) (rest := [.int q1]) ⟨hx, hb, hml, hown, hts⟩ (c_X4_count (l := l) (D := D) (cI := cI) (cZ := cZ) (h := gm) (ad := ad) (hf := h2)) (cwV 1 hts gL_law_X4_count rfl rfl rfl (by decide +kernel) ⟨Nat.le_of_ble_eq_true rfl, Nat.le_of_ble_eq_true rfl⟩) ⟨k_blind, va_recv hKc hPc (ci := 4) (q0 := 0) rfl rfl, fun U hU hW => ⟨rfl, k_pre hU hW hPc hKc hDc⟩⟩ rfl rfl hl.1 rfl (lv_room (Nat.le_of_ble_eq_true rfl)) dL_law_508 ⟨by show 49 + 7 * gN C1 + (gE C1 - 256) / 256 + (M.2.2 - 4000) / 4000 + (0) ≤ 600000; omega, by show 13528 + 108 * gN C1 + 2 * (gE C1 - 256) + 2 * (M.2.2 - 4000) + (0) ≤ 7302250; omega⟩) hS (fun q _ h => hFc q h) hFc (fun q2 u t H1 locs ht hvm hw hB hz1 hk1 hS => ?_)
  obtain ⟨rfl, rfl, hgm⟩ := hw
  refine W.widen (k := 49 + 7 * gN C1 + (gE C1 - 256) / 256 + (M1.2.2 - 4000) / 4000) (n := 13528 + 108 * gN C1 + 2 * (gE C1 - 256) + 2 * (M1.2.2 - 4000)) (by omega) (by omega) ?_
  obtain ⟨hP1, hK1, hD1⟩ := hB
  rw [ht] at hP1
  obtain ⟨hP, hD⟩ := k_joinR hP hD hFc hk1 hP1 hD1
  generalize H1 = H at hP hS ⊢
  refine lv_icmp_eq (tgt := 516) hx hb dL_law_511 (by decide) (fun _ => ?_) (fun cc => absurd hc cc)
  exact kk ea pa ad _ _ hP hD hS
