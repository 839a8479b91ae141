set_option maxRecDepth 100000 in
theorem kin_L_law_X3 : ∀ w ∈ u_ws RX3 TX3 18, w ∈ wsL_law := by decide +kernel
set_option maxRecDepth 100000 in
theorem kin_L_law_X4 : ∀ w ∈ u_ws RX4 TX4 39, w ∈ wsL_law := by decide +kernel
set_option maxRecDepth 100000 in
theorem kw_L_law__classLink_RL_7_RX3 : (.classLink RL 7 RX3 : Cond) ∈ wsL_law := by decide +kernel
set_option maxRecDepth 100000 in
theorem kw_L_law__instantiable_RX3_18 : (.instantiable RX3 18 : Cond) ∈ wsL_law := by decide +kernel
set_option maxRecDepth 100000 in
theorem kw_L_law__initialized_RX3 : (.initialized RX3 : Cond) ∈ wsL_law := by decide +kernel
set_option maxRecDepth 100000 in
theorem kw_L_law__methodLink_RL_9_yX3_init : (.methodLink RL 9 yX3_init : Cond) ∈ wsL_law := by decide +kernel
set_option maxRecDepth 100000 in
theorem kw_L_law__instanceMethod_yX3_init : (.instanceMethod yX3_init : Cond) ∈ wsL_law := by decide +kernel
set_option maxRecDepth 100000 in
theorem kw_L_law__classLink_RL_10_RX4 : (.classLink RL 10 RX4 : Cond) ∈ wsL_law := by decide +kernel
set_option maxRecDepth 100000 in
theorem kw_L_law__instantiable_RX4_39 : (.instantiable RX4 39 : Cond) ∈ wsL_law := by decide +kernel
set_option maxRecDepth 100000 in
theorem kw_L_law__initialized_RX4 : (.initialized RX4 : Cond) ∈ wsL_law := by decide +kernel
set_option maxRecDepth 100000 in
theorem kw_L_law__methodLink_RL_12_yX4_init : (.methodLink RL 12 yX4_init : Cond) ∈ wsL_law := by decide +kernel
set_option maxRecDepth 100000 in
theorem kw_L_law__instanceMethod_yX4_init : (.instanceMethod yX4_init : Cond) ∈ wsL_law := by decide +kernel
set_option maxHeartbeats 16000000 in
set_option maxRecDepth 100000 in
theorem law_all (I : Nat → CS → MS → Prop) (hI0 : ∀ fl : Nat → Int32, (∀ j : Nat, j < 4 → fl j = 3) → I 0 C00 (M00 fl)) (hbds : ∀ (j : Nat) (C : CS) (M : MS), I j C M → lbd C M) (hs_program : ∀ (j : Nat) (C : CS) (M : MS) (x1 : Int32), j < 512 → I j C M → ∃ (q1 : Int32) (C1 : CS) (q2 : Int32) (M1 : MS), f_X3_program x1 C = some (q1, C1) ∧ f_X4_program x1 M = some (q2, M1) ∧ I (j + 1) C1 M1) (hs_step : ∀ (j : Nat) (C : CS) (M : MS) (x1 : Int32) (x2 : Int32), j < 512 → I j C M → ∃ (q1 : Int32) (C1 : CS) (q2 : Int32) (M1 : MS), f_X3_step x1 x2 C = some (q1, C1) ∧ f_X4_step x1 x2 M = some (q2, M1) ∧ I (j + 1) C1 M1) (hs_act : ∀ (j : Nat) (C : CS) (M : MS) (x1 : Int32) (x2 : Int32) (x3 : Int32), j < 512 → I j C M → ∃ (q1 : Int32) (C1 : CS) (q2 : Int32) (M1 : MS), f_X3_act x1 x2 x3 C = some (q1, C1) ∧ f_X4_act x1 x2 x3 M = some (q2, M1) ∧ I (j + 1) C1 M1) (hs_limit : ∀ (j : Nat) (C : CS) (M : MS) (x1 : Int32) (x2 : Int32), j < 512 → I j C M → ∃ (q1 : Int32) (C1 : CS) (q2 : Int32) (M1 : MS), f_X3_limit x1 x2 C = some (q1, C1) ∧ f_X4_limit x1 x2 M = some (q2, M1) ∧ I (j + 1) C1 M1) (hs_floor : ∀ (j : Nat) (C : CS) (M : MS) (x1 : Int32) (x2 : Int32), j < 512 → I j C M → ∃ (q1 : Int32) (C1 : CS) (q2 : Int32) (M1 : MS), f_X3_floor x1 x2 C = some (q1, C1) ∧ f_X4_floor x1 x2 M = some (q2, M1) ∧ I (j + 1) C1 M1) (hs_go : ∀ (j : Nat) (C : CS) (M : MS) (x1 : Int32), j < 512 → I j C M → ∃ (q1 : Int32) (C1 : CS) (q2 : Int32) (M1 : MS), f_X3_go x1 C = some (q1, C1) ∧ f_X4_go x1 M = some (q2, M1) ∧ I (j + 1) C1 M1) (hs_fall : ∀ (j : Nat) (C : CS) (M : MS) (x1 : Int32), j < 512 → I j C M → ∃ (q1 : Int32) (C1 : CS) (q2 : Int32) (M1 : MS), f_X3_fall x1 C = some (q1, C1) ∧ f_X4_fall x1 M = some (q2, M1) ∧ I (j + 1) C1 M1) (hs_told : ∀ (j : Nat) (C : CS) (M : MS) (x1 : Int32) (x2 : Int32), j < 512 → I j C M → ∃ (q1 : Int32) (C1 : CS) (q2 : Int32) (M1 : MS), f_X3_told x1 x2 C = some (q1, C1) ∧ f_X4_told x1 x2 M = some (q2, M1) ∧ I (j + 1) C1 M1) (hs_register : ∀ (j : Nat) (C : CS) (M : MS) (x1 : Int32), j < 512 → I j C M → ∃ (q1 : Int32) (C1 : CS) (q2 : Int32) (M1 : MS), f_X3_register x1 C = some (q1, C1) ∧ f_X4_register x1 M = some (q2, M1) ∧ I (j + 1) C1 M1) (hs_holds : ∀ (j : Nat) (C : CS) (M : MS) (x1 : Int32) (x2 : Int32), j < 512 → I j C M → ∃ (q1 : Int32) (C1 : CS) (q2 : Int32) (M1 : MS), f_X3_holds x1 x2 C = some (q1, C1) ∧ f_X4_holds x1 x2 M = some (q2, M1) ∧ I (j + 1) C1 M1) (hs_value : ∀ (j : Nat) (C : CS) (M : MS) (x1 : Int32) (x2 : Int32), j < 512 → I j C M → ∃ (q1 : Int32) (C1 : CS) (q2 : Int32) (M1 : MS), f_X3_value x1 x2 C = some (q1, C1) ∧ f_X4_value x1 x2 M = some (q2, M1) ∧ I (j + 1) C1 M1) (hs_done : ∀ (j : Nat) (C : CS) (M : MS) (x1 : Int32), j < 512 → I j C M → ∃ (q1 : Int32) (C1 : CS) (q2 : Int32) (M1 : MS), f_X3_done x1 C = some (q1, C1) ∧ f_X4_done x1 M = some (q2, M1) ∧ I (j + 1) C1 M1) (hs_log : ∀ (j : Nat) (C : CS) (M : MS) (x1 : Int32) (x2 : Int32), j < 512 → I j C M → ∃ (q1 : Int32) (C1 : CS) (q2 : Int32) (M1 : MS), f_X3_log x1 x2 C = some (q1, C1) ∧ f_X4_log x1 x2 M = some (q2, M1) ∧ I (j + 1) C1 M1) (hs_count : ∀ (j : Nat) (C : CS) (M : MS) (x1 : Int32), j < 512 → I j C M → ∃ (q1 : Int32) (C1 : CS) (q2 : Int32) (M1 : MS), f_X3_count x1 C = some (q1, C1) ∧ f_X4_count x1 M = some (q2, M1) ∧ I (j + 1) C1 M1 ∧ q1 = q2) {p : Program} {e : Env} {s : State} {m : MethodId} {below : List Frame} {meth : Method} {c : Code} (l : Launch) {b L : Nat} {xs : Nat → Int32} (hL : L ≤ 2048) (X0 : lw_At p s m meth c b L xs) : W p l e room_1 s m #[Value.ref b] below meth c s.heap [] 0 0 (lw_Z below #[Value.ref b] s) (entryFrame m ([Value.ref b] : List Value).toArray 4) := by
  obtain ⟨hx, hb, hr, hml, hown, hts0, hX, hbl, hlocks, hgv⟩ := id X0
  have hts : ∀ w ∈ wsL_law, w.before #[Value.ref b] s = true := fun w h => hts0 w (wsL_law_in w h)
  have hown : s.vm.findClass RL = some m.cls := hown
  have hAO : va_AO RX0 s := va_AO.of (hts0 (.arrayOver (.object RX0)) kq_over)
  have hN45 : va_Nw (.methodLinkNest RX3 45 yX1_init RX3) s := va_Nw.of rfl (hts0 _ kq_n45)
  have hN52 : va_Nw (.methodLinkNest RX3 52 yX2_init RX3) s := va_Nw.of rfl (hts0 _ kq_n52)
  obtain ⟨A, hAe⟩ : ∃ A : Nat → Prop, A = (fun q : Nat => s.heap.size ≤ q) := ⟨_, rfl⟩
  have hA : ∀ q : Nat, s.heap.size ≤ q → A q := fun q h => by rw [hAe]; exact h
  have hAf : ∀ q : Nat, A q → s.heap.size ≤ q := fun q h => by rw [hAe] at h; exact h
  have hbA : ¬ A b := fun h => absurd (hAf b h) (Nat.not_le.mpr hbl)
  have hLi : (Int32.ofNat L).toInt = (L : Int) := nI_toInt (n := L) (by omega)
  obtain ⟨c0, iS0, hKn0⟩ := u_known (C := RX0) (T := TX0) (N := 20) (n := 20) hts0 inX0 (hts0 (.instantiable RX0 20) kq_i0)
  obtain ⟨c1, iS1, hKn1⟩ := u_known (C := RX1) (T := TX1) (N := 3) (n := 3) hts0 inX1 (hts0 (.instantiable RX1 3) kq_i1)
  obtain ⟨c2, iS2, hKn2⟩ := u_known (C := RX2) (T := TX2) (N := 3) (n := 3) hts0 inX2 (hts0 (.instantiable RX2 3) kq_i2)
  obtain ⟨c3, iS3, hKn3⟩ := u_known (C := RX3) (T := TX3) (N := 18) (n := 18) hts0 inX3 (hts0 (.instantiable RX3 18) kq_i3)
  obtain ⟨c4, iS4, hKn4⟩ := u_known (C := RX4) (T := TX4) (N := 39) (n := 39) hts0 inX4 (hts0 (.instantiable RX4 39) kq_i4)
  obtain ⟨D, hKc⟩ : ∃ (D : va_G), ∀ (k : Nat) (q : vw_C), vwCl[k]? = some q → u_Kn s q.1 q.2.1 q.2.2 (D.1 k) (D.2 k) := by
    refine ⟨(fun k => if k = 0 then c0 else if k = 1 then c1 else if k = 2 then c2 else if k = 3 then c3 else c4, fun k => if k = 0 then iS0 else if k = 1 then iS1 else if k = 2 then iS2 else if k = 3 then iS3 else iS4), ?_⟩
    intro k q hq
    match k, hq with
    | 0, hq => cases hq; exact hKn0
    | 1, hq => cases hq; exact hKn1
    | 2, hq => cases hq; exact hKn2
    | 3, hq => cases hq; exact hKn3
    | 4, hq => cases hq; exact hKn4
    | k + 5, hq => simp [vwCl] at hq
  have hS : va_S A s.heap s.heap [] := va_S.rf
  have hK : va_K D vwCl [] s := ⟨hKc, fun k q h => by simp at h⟩
  have hP : va_P D vwCl [] s.heap := fun k q h => by simp at h
  have hD : va_D A [] := ⟨fun i j p q h => by simp at h, fun k q h => by simp at h⟩
  have hl4 : (4 : Int32).toInt = 4 := by decide
  have hl0 : (0 : Int32).toInt = 0 := by decide
  have hL4 := k_sub (x := Int32.ofNat L) (y := 4) (by omega) (by omega)
  have hl := lv_entry ([.ref b]) (n := 4) (Nat.le_of_ble_eq_true rfl)
  rw [lg_entry_eq]
  generalize (lg_sl ([.ref b]) ++ List.replicate (4 - (lg_sl ([.ref b])).length) Slot.unset).toArray = ls at hl ⊢
  have hl : lv_has ls 4 [(0, .ref b)] := hl
  refine va_new (ci := 3) (fs := [.null, .null, .null, .null, .null, .null, .null, .null, .null, .null, .null, .null, .int 0, .int 0, .int 0, .int 0, .int 0, .int 0]) (C := RX3) (T := TX3) (N := 18) hx hb hts kin_L_law_X3 tyX3 tyX3_ok hown (hts _ kw_L_law__classLink_RL_7_RX3) (hts _ kw_L_law__instantiable_RX3_18) (hts _ kw_L_law__initialized_RX3) hK hP hD hS hA rfl (fun j hj => by revert j; decide) (by decide) (by decide) dL_law_0 (fun h H hP hD hS => ?_)
  refine lv_dup hx hb dL_law_3 rfl ?_
  have hP : va_P D vwCl [(h, .inr (3, [.null, .null, .null, .null, .null, .null, .null, .null, .null, .null, .null, .null, .int 0, .int 0, .int 0, .int 0, .int 0, .int 0]))] H := hP
  have hD : va_D A [(h, .inr (3, [.null, .null, .null, .null, .null, .null, .null, .null, .null, .null, .null, .null, .int 0, .int 0, .int 0, .int 0, .int 0, .int 0]))] := hD
  have hFc := k_free hD hS hA
  refine va_callv (va_runI (As := []) (rest := [.ref h]) ⟨hx, hb, hml, hown, hts⟩ (c_X3_init (l := l) (D := D) (h := h)) (cwI 0 hts gL_law_X3_init rfl rfl rfl (hts _ kw_L_law__initialized_RX3) (hts _ kw_L_law__methodLink_RL_9_yX3_init) (hts _ kw_L_law__instanceMethod_yX3_init) rfl (by decide +kernel) ⟨Nat.le_of_ble_eq_true rfl, Nat.le_of_ble_eq_true rfl⟩) ⟨k_blindO, fun U hU hW => ⟨rfl, k_pre hU hW hP hK hD, va_AO.moved hW.alike hAO, va_Nw.warmM hW hN45, va_Nw.warmM hW hN52⟩⟩ rfl rfl hl.1 rfl (lv_room (Nat.le_of_ble_eq_true rfl)) dL_law_4 ⟨by decide, by decide⟩) hS (fun q _ h => hFc q h) hFc (fun u t H1 locs ht hvm hw hB hz1 hk1 hS => ?_)
  obtain ⟨xprogramSteps, xprogramLengths, xlimits, xfloors, xvalues, xacts, xorder, xdoneRow, xrunning, xbegunOfClass, xbook, xwaits, en, dr, rc, fl, cI, cO, cJ, rfl, hfl⟩ := hw
  obtain ⟨hP1, hK1, hD1⟩ := hB
  rw [ht] at hP1
  have hK1 := va_K.moved hvm.symm hK1
  have hD := k_weak hD1 hFc
  have hP := hP1
  generalize H1 = H at hP hS ⊢
  subst hfl
  obtain ⟨xa, exa⟩ : ∃ xa : Nat → Nat, xa = (fun k => match k with | 0 => xprogramSteps | 1 => xprogramLengths | 2 => xlimits | 3 => xfloors | 4 => xvalues | 5 => xacts | 6 => xorder | 7 => xdoneRow | 8 => xrunning | 9 => xbegunOfClass | 10 => xbook | 11 => xwaits | 30 => dr | 31 => rc | _ => 0) := ⟨_, rfl⟩
  obtain ⟨pa, epa⟩ : ∃ pa : Nat → Nat → Nat, pa = (fun _ _ => 0) := ⟨_, rfl⟩
  have hP : va_P D vwCl (cW cI cJ cO h xa en pa C00) H := by rw [exa]; exact hP
  have hD : va_D A (cW cI cJ cO h xa en pa C00) := by rw [exa]; exact hD
  have hK : va_K D vwCl [(cI, .int), (cO, .object RX0), (cJ, .long)] s := hK1
  refine lv_astore_n (lv' := [(1, .ref h), (0, .ref b)]) hx hb dL_law_7 rfl hl (by decide) rfl (fun ls hl => ?_)
  refine W.widen (k := 16) (n := 780) (by decide) (by decide) ?_
  refine va_new (ci := 4) (fs := [.int 0, .null, .null, .null, .null, .null, .null, .int 0, .null, .null, .null, .null, .null, .null, .null, .null, .null, .null, .null, .null, .null, .null, .null, .null, .null, .null, .null, .null, .null, .int 0, .null, .int 0, .int 0, .null, .int 0, .int 0, .null, .null, .null]) (C := RX4) (T := TX4) (N := 39) hx hb hts kin_L_law_X4 tyX4 tyX4_ok hown (hts _ kw_L_law__classLink_RL_10_RX4) (hts _ kw_L_law__instantiable_RX4_39) (hts _ kw_L_law__initialized_RX4) hK hP hD hS hA rfl (fun j hj => by revert j; decide) (by decide) (by decide) dL_law_8 (fun gm H hP hD hS => ?_)
  refine lv_dup hx hb dL_law_11 rfl ?_
  have hPc := k_appR hP
  have hDc := k_appDR hD
  have hKc := hK.sub (tys' := [(cI, .int)]) [0] rfl
  have hFc := k_free hDc hS hA
  refine va_callv (va_runI (As := []) (rest := [.ref gm]) ⟨hx, hb, hml, hown, hts⟩ (c_X4_init (l := l) (D := D) (h := gm) (cI := cI)) (cwI 0 hts gL_law_X4_init rfl rfl rfl (hts _ kw_L_law__initialized_RX4) (hts _ kw_L_law__methodLink_RL_12_yX4_init) (hts _ kw_L_law__instanceMethod_yX4_init) rfl (by decide +kernel) ⟨Nat.le_of_ble_eq_true rfl, Nat.le_of_ble_eq_true rfl⟩) ⟨k_blind, fun U hU hW => ⟨rfl, k_pre hU hW hPc hKc hDc⟩⟩ rfl rfl hl.1 rfl (lv_room (Nat.le_of_ble_eq_true rfl)) dL_law_12 ⟨by decide, by decide⟩) hS (fun q _ h => hFc q h) hFc (fun u t H1 locs ht hvm hw hB hz1 hk1 hS => ?_)
  obtain ⟨mcells, mcounters, mfloors, mlimits, mlongs, msteps, mprogram, mkind, mrank, mstate, mactLong, mactSteps, mat, mregister, misHeld, mdoneIn, mundone, mby, mbegunIn, misVoid, misAgain, mholds, mwrites, mgives, mbelow, mqueued, mqueuedMany, mdone, mlog, morder, misReached, mqueue, fl, cZ, rfl, hfl⟩ := hw
  obtain ⟨hP1, hK1, hD1⟩ := hB
  rw [ht] at hP1
  have hK1 := va_K.moved hvm.symm hK1
  obtain ⟨hP, hD⟩ := k_joinR hP hD hFc hk1 hP1 hD1
  generalize H1 = H at hP hS ⊢
  obtain ⟨ad, ead⟩ : ∃ ad : Nat → Nat, ad = (fun k => match k with | 1 => mcells | 2 => mcounters | 3 => mfloors | 4 => mlimits | 5 => mlongs | 6 => msteps | 8 => mprogram | 9 => mkind | 10 => mrank | 11 => mstate | 12 => mactLong | 13 => mactSteps | 14 => mat | 15 => mregister | 16 => misHeld | 17 => mdoneIn | 18 => mundone | 19 => mby | 20 => mbegunIn | 21 => misVoid | 22 => misAgain | 23 => mholds | 24 => mwrites | 25 => mgives | 26 => mbelow | 27 => mqueued | 28 => mqueuedMany | 30 => mdone | 33 => mlog | 36 => morder | 37 => misReached | 38 => mqueue | _ => 0) := ⟨_, rfl⟩
  have hP : va_P D vwCl (cW cI cJ cO h xa en pa C00 ++ mW cI cZ gm ad (M00 fl)) H := by rw [ead]; exact hP
  have hD : va_D A (cW cI cJ cO h xa en pa C00 ++ mW cI cZ gm ad (M00 fl)) := by rw [ead]; exact hD
  have hK : va_K D vwCl [(cI, .int), (cO, .object RX0), (cJ, .long), (cZ, .boolean)] s := hK.app (hK1.sub (tys' := [(cZ, .boolean)]) [1] rfl)
  refine lv_astore_n (lv' := [(2, .ref gm), (1, .ref h), (0, .ref b)]) hx hb dL_law_15 rfl hl (by decide) rfl (fun ls hl => ?_)
  refine lv_iconst (v := 0) hx hb dL_law_16 (by decide) ?_
  refine lv_istore_n (lv' := [(3, .int 0), (2, .ref gm), (1, .ref h), (0, .ref b)]) hx hb dL_law_17 rfl hl (by decide) rfl (fun ls hl => ?_)
  have loop : ∀ (n : Nat) (i : Int32) (C : CS) (M : MS) (ea : Nat) (pa : Nat → Nat → Nat) (ad : Nat → Nat) (H : Heap) (locs : List Loc) (ls : Array Slot) (j : Nat), 0 ≤ i.toInt → i.toInt ≤ L + 4 → (L : Int) < i.toInt + 4 + 4 * n → 4 * (j : Int) ≤ i.toInt → I j C M → va_P D vwCl (cW cI cJ cO h xa ea pa C ++ mW cI cZ gm ad M) H → va_D A (cW cI cJ cO h xa ea pa C ++ mW cI cZ gm ad M) → va_S A s.heap H locs → lv_has ls 4 [(3, .int i), (2, .ref gm), (1, .ref h), (0, .ref b)] → W p l e room_1 s m #[Value.ref b] below meth c H locs (49 + 7 * gN C + (gE C - 256) / 256 + (M.2.2 - 4000) / 4000) (13528 + 108 * gN C + 2 * (gE C - 256) + 2 * (M.2.2 - 4000)) (lw_Z below #[Value.ref b] s) (F0 m 18 ls []) := by
    intro n
    induction n with
    | zero =>
      intro i C M ea pa ad H locs ls j hi0 hi1 hi2 hj hI hP hD hS hl
      have hbd := hbds j C M hI
      refine lv_iload_n hx hb dL_law_18 rfl (lv_at hl 0 rfl) ?_
      refine lv_aload_n hx hb dL_law_19 rfl (lv_at hl 3 rfl) ?_
      refine va_slen hx hb hX hbl hbA hS dL_law_20 ?_
      refine lv_iconst (v := 4) hx hb dL_law_21 (by decide) ?_
      refine lv_isub hx hb dL_law_22 ?_
      refine lv_icmp_gt (tgt := 522) hx hb dL_law_23 (by decide) (fun c1 => ?_) (fun c1 => ?_)
      · obtain ⟨hb1, hb2, hb3, hb4, hb5⟩ := hbd
        refine lv_iconst (v := 1) hx hb dL_law_522 (by decide) ?_
        refine va_forget (fun q hq => hAf _ (hS.2.2 q hq)) ?_
        refine W.widen (k := 600000) (n := 7302250) (by omega) (by omega) ?_
        exact lw_ret hx hb hr hlocks dL_law_523
      · have c1 := k_nlt c1
        exfalso; omega
    | succ n ih =>
      intro i C M ea pa ad H locs ls j hi0 hi1 hi2 hj hI hP hD hS hl
      have hbd := hbds j C M hI
      refine lv_iload_n hx hb dL_law_18 rfl (lv_at hl 0 rfl) ?_
      refine lv_aload_n hx hb dL_law_19 rfl (lv_at hl 3 rfl) ?_
      refine va_slen hx hb hX hbl hbA hS dL_law_20 ?_
      refine lv_iconst (v := 4) hx hb dL_law_21 (by decide) ?_
      refine lv_isub hx hb dL_law_22 ?_
      refine lv_icmp_gt (tgt := 522) hx hb dL_law_23 (by decide) (fun c1 => ?_) (fun c1 => ?_)
      · obtain ⟨hb1, hb2, hb3, hb4, hb5⟩ := hbd
        refine lv_iconst (v := 1) hx hb dL_law_522 (by decide) ?_
        refine va_forget (fun q hq => hAf _ (hS.2.2 q hq)) ?_
        refine W.widen (k := 600000) (n := 7302250) (by omega) (by omega) ?_
        exact lw_ret hx hb hr hlocks dL_law_523
      · have c1 := k_nlt c1
        have hi : 0 ≤ i.toInt ∧ i.toInt + 4 ≤ L := ⟨hi0, by omega⟩
        have k516 : ∀ (C : CS) (M : MS) (ea : Nat) (pa : Nat → Nat → Nat) (ad : Nat → Nat) (H : Heap) (locs : List Loc) (j2 : Nat), j2 ≤ j + 1 → I j2 C M → va_P D vwCl (cW cI cJ cO h xa ea pa C ++ mW cI cZ gm ad M) H → va_D A (cW cI cJ cO h xa ea pa C ++ mW cI cZ gm ad M) → va_S A s.heap H locs → W p l e room_1 s m #[Value.ref b] below meth c H locs (49 + 7 * gN C + (gE C - 256) / 256 + (M.2.2 - 4000) / 4000) (13528 + 108 * gN C + 2 * (gE C - 256) + 2 * (M.2.2 - 4000)) (lw_Z below #[Value.ref b] s) (F0 m 516 ls []) := by
          intro C M ea pa ad H locs j2 hj2 hI hP hD hS
          refine lv_iinc (v := i + 4) (lv' := [(3, .int (i + 4)), (2, .ref gm), (1, .ref h), (0, .ref b)]) hx hb dL_law_516 hl (k := 0) rfl (by rfl) (by decide) rfl (fun ls hl => ?_)
          refine lv_goto (tgt := 18) hx hb dL_law_519 (by decide) ?_
          have e4 := k_add (x := i) (y := 4) (by omega) (by omega)
          exact ih (i + 4) C M ea pa ad H locs ls j2 (by omega) (by omega) (by omega) (by omega) hI hP hD hS hl
        refine lv_aload_n hx hb dL_law_26 rfl (lv_at hl 3 rfl) ?_
        refine lv_iload_n hx hb dL_law_27 rfl (lv_at hl 0 rfl) ?_
        refine va_sld hx hb hX hbl hbA hS (k_in (by omega) (by omega)) dL_law_28 ?_
        refine lv_bipush (v := 15) hx hb dL_law_29 (by decide) ?_
        refine lv_iand hx hb dL_law_31 ?_
        by_cases hs0 : (xs i.toNatClampNeg &&& 15).toInt = 0
        · refine lv_tableIn (off := 72) (tgt := 104) hx hb dL_law_32 (by rw [hs0]; decide) (by rw [hs0]; decide) (by rw [hs0]; rfl) (by decide) ?_
          obtain ⟨q1, C1, q2, M1, h1, h2, hI1⟩ := hs_program j C M (xs (i + 1).toNatClampNeg) (by omega) hI
          exact lc_0 X0 hA hAf hi hL hbd hK hP hD hS hl h1 h2 (fun ea pa ad H locs hP hD hS => k516 C1 M1 ea pa ad H locs (j + 1) (by omega) hI1 hP hD hS)
        by_cases hs1 : (xs i.toNatClampNeg &&& 15).toInt = 1
        · refine lv_tableIn (off := 95) (tgt := 127) hx hb dL_law_32 (by rw [hs1]; decide) (by rw [hs1]; decide) (by rw [hs1]; rfl) (by decide) ?_
          obtain ⟨q1, C1, q2, M1, h1, h2, hI1⟩ := hs_step j C M (xs (i + 1).toNatClampNeg) (xs (i + 2).toNatClampNeg) (by omega) hI
          exact lc_1 X0 hA hAf hi hL hbd hK hP hD hS hl h1 h2 (fun ea pa ad H locs hP hD hS => k516 C1 M1 ea pa ad H locs (j + 1) (by omega) hI1 hP hD hS)
        by_cases hs2 : (xs i.toNatClampNeg &&& 15).toInt = 2
        · refine lv_tableIn (off := 128) (tgt := 160) hx hb dL_law_32 (by rw [hs2]; decide) (by rw [hs2]; decide) (by rw [hs2]; rfl) (by decide) ?_
          obtain ⟨q1, C1, q2, M1, h1, h2, hI1⟩ := hs_act j C M (xs (i + 1).toNatClampNeg) (xs (i + 2).toNatClampNeg) (xs (i + 3).toNatClampNeg) (by omega) hI
          exact lc_2 X0 hA hAf hi hL hbd hK hP hD hS hl h1 h2 (fun ea pa ad H locs hP hD hS => k516 C1 M1 ea pa ad H locs (j + 1) (by omega) hI1 hP hD hS)
        by_cases hs3 : (xs i.toNatClampNeg &&& 15).toInt = 3
        · refine lv_tableIn (off := 171) (tgt := 203) hx hb dL_law_32 (by rw [hs3]; decide) (by rw [hs3]; decide) (by rw [hs3]; rfl) (by decide) ?_
          obtain ⟨q1, C1, q2, M1, h1, h2, hI1⟩ := hs_limit j C M (xs (i + 1).toNatClampNeg) (xs (i + 2).toNatClampNeg) (by omega) hI
          exact lc_3 X0 hA hAf hi hL hbd hK hP hD hS hl h1 h2 (fun ea pa ad H locs hP hD hS => k516 C1 M1 ea pa ad H locs (j + 1) (by omega) hI1 hP hD hS)
        by_cases hs4 : (xs i.toNatClampNeg &&& 15).toInt = 4
        · refine lv_tableIn (off := 204) (tgt := 236) hx hb dL_law_32 (by rw [hs4]; decide) (by rw [hs4]; decide) (by rw [hs4]; rfl) (by decide) ?_
          obtain ⟨q1, C1, q2, M1, h1, h2, hI1⟩ := hs_floor j C M (xs (i + 1).toNatClampNeg) (xs (i + 2).toNatClampNeg) (by omega) hI
          exact lc_4 X0 hA hAf hi hL hbd hK hP hD hS hl h1 h2 (fun ea pa ad H locs hP hD hS => k516 C1 M1 ea pa ad H locs (j + 1) (by omega) hI1 hP hD hS)
        by_cases hs5 : (xs i.toNatClampNeg &&& 15).toInt = 5
        · refine lv_tableIn (off := 237) (tgt := 269) hx hb dL_law_32 (by rw [hs5]; decide) (by rw [hs5]; decide) (by rw [hs5]; rfl) (by decide) ?_
          obtain ⟨q1, C1, q2, M1, h1, h2, hI1⟩ := hs_go j C M (xs (i + 1).toNatClampNeg) (by omega) hI
          exact lc_5 X0 hA hAf hi hL hbd hK hP hD hS hl h1 h2 (fun ea pa ad H locs hP hD hS => k516 C1 M1 ea pa ad H locs (j + 1) (by omega) hI1 hP hD hS)
        by_cases hs6 : (xs i.toNatClampNeg &&& 15).toInt = 6
        · refine lv_tableIn (off := 260) (tgt := 292) hx hb dL_law_32 (by rw [hs6]; decide) (by rw [hs6]; decide) (by rw [hs6]; rfl) (by decide) ?_
          obtain ⟨q1, C1, q2, M1, h1, h2, hI1⟩ := hs_fall j C M (xs (i + 1).toNatClampNeg) (by omega) hI
          exact lc_6 X0 hA hAf hi hL hbd hK hP hD hS hl h1 h2 (fun ea pa ad H locs hP hD hS => k516 C1 M1 ea pa ad H locs (j + 1) (by omega) hI1 hP hD hS)
        by_cases hs7 : (xs i.toNatClampNeg &&& 15).toInt = 7
        · refine lv_tableIn (off := 283) (tgt := 315) hx hb dL_law_32 (by rw [hs7]; decide) (by rw [hs7]; decide) (by rw [hs7]; rfl) (by decide) ?_
          obtain ⟨q1, C1, q2, M1, h1, h2, hI1⟩ := hs_told j C M (xs (i + 1).toNatClampNeg) (xs (i + 2).toNatClampNeg) (by omega) hI
          exact lc_7 X0 hA hAf hi hL hbd hK hP hD hS hl h1 h2 (fun ea pa ad H locs hP hD hS => k516 C1 M1 ea pa ad H locs (j + 1) (by omega) hI1 hP hD hS)
        by_cases hs8 : (xs i.toNatClampNeg &&& 15).toInt = 8
        · refine lv_tableIn (off := 316) (tgt := 348) hx hb dL_law_32 (by rw [hs8]; decide) (by rw [hs8]; decide) (by rw [hs8]; rfl) (by decide) ?_
          obtain ⟨q1, C1, q2, M1, h1, h2, hI1⟩ := hs_register j C M (xs (i + 1).toNatClampNeg) (by omega) hI
          exact lc_8 X0 hA hAf hi hL hbd hK hP hD hS hl h1 h2 (fun ea pa ad H locs hP hD hS => k516 C1 M1 ea pa ad H locs (j + 1) (by omega) hI1 hP hD hS)
        by_cases hs9 : (xs i.toNatClampNeg &&& 15).toInt = 9
        · refine lv_tableIn (off := 339) (tgt := 371) hx hb dL_law_32 (by rw [hs9]; decide) (by rw [hs9]; decide) (by rw [hs9]; rfl) (by decide) ?_
          obtain ⟨q1, C1, q2, M1, h1, h2, hI1⟩ := hs_holds j C M (xs (i + 1).toNatClampNeg) (xs (i + 2).toNatClampNeg) (by omega) hI
          exact lc_9 X0 hA hAf hi hL hbd hK hP hD hS hl h1 h2 (fun ea pa ad H locs hP hD hS => k516 C1 M1 ea pa ad H locs (j + 1) (by omega) hI1 hP hD hS)
        by_cases hs10 : (xs i.toNatClampNeg &&& 15).toInt = 10
        · refine lv_tableIn (off := 372) (tgt := 404) hx hb dL_law_32 (by rw [hs10]; decide) (by rw [hs10]; decide) (by rw [hs10]; rfl) (by decide) ?_
          obtain ⟨q1, C1, q2, M1, h1, h2, hI1⟩ := hs_value j C M (xs (i + 1).toNatClampNeg) (xs (i + 2).toNatClampNeg) (by omega) hI
          exact lc_10 X0 hA hAf hi hL hbd hK hP hD hS hl h1 h2 (fun ea pa ad H locs hP hD hS => k516 C1 M1 ea pa ad H locs (j + 1) (by omega) hI1 hP hD hS)
        by_cases hs11 : (xs i.toNatClampNeg &&& 15).toInt = 11
        · refine lv_tableIn (off := 405) (tgt := 437) hx hb dL_law_32 (by rw [hs11]; decide) (by rw [hs11]; decide) (by rw [hs11]; rfl) (by decide) ?_
          obtain ⟨q1, C1, q2, M1, h1, h2, hI1⟩ := hs_done j C M (xs (i + 1).toNatClampNeg) (by omega) hI
          exact lc_11 X0 hA hAf hi hL hbd hK hP hD hS hl h1 h2 (fun ea pa ad H locs hP hD hS => k516 C1 M1 ea pa ad H locs (j + 1) (by omega) hI1 hP hD hS)
        by_cases hs12 : (xs i.toNatClampNeg &&& 15).toInt = 12
        · refine lv_tableIn (off := 428) (tgt := 460) hx hb dL_law_32 (by rw [hs12]; decide) (by rw [hs12]; decide) (by rw [hs12]; rfl) (by decide) ?_
          obtain ⟨q1, C1, q2, M1, h1, h2, hI1⟩ := hs_log j C M (xs (i + 1).toNatClampNeg) (xs (i + 2).toNatClampNeg) (by omega) hI
          exact lc_12 X0 hA hAf hi hL hbd hK hP hD hS hl h1 h2 (fun ea pa ad H locs hP hD hS => k516 C1 M1 ea pa ad H locs (j + 1) (by omega) hI1 hP hD hS)
        by_cases hs13 : (xs i.toNatClampNeg &&& 15).toInt = 13
        · refine lv_tableIn (off := 461) (tgt := 493) hx hb dL_law_32 (by rw [hs13]; decide) (by rw [hs13]; decide) (by rw [hs13]; rfl) (by decide) ?_
          obtain ⟨q1, C1, q2, M1, h1, h2, hI1, hc⟩ := hs_count j C M (xs (i + 1).toNatClampNeg) (by omega) hI
          exact lc_13 X0 hA hAf hi hL hbd hK hP hD hS hl h1 h2 hc (fun ea pa ad H locs hP hD hS => k516 C1 M1 ea pa ad H locs (j + 1) (by omega) hI1 hP hD hS)
        refine lv_tableOut (tgt := 516) hx hb dL_law_32 (by omega) (by decide) ?_
        exact k516 C M ea pa ad H locs j (by omega) hI hP hD hS
  refine W.widen (k := 49 + 7 * gN C00 + (gE C00 - 256) / 256 + ((M00 fl).2.2 - 4000) / 4000) (n := 13528 + 108 * gN C00 + 2 * (gE C00 - 256) + 2 * ((M00 fl).2.2 - 4000)) (by show _ ≤ 49 + 7 * 0 + (256 - 256) / 256 + (4000 - 4000) / 4000; decide) (by show _ ≤ 13528 + 108 * 0 + 2 * (256 - 256) + 2 * (4000 - 4000); decide) ?_
  exact loop (L + 1) 0 C00 (M00 fl) en pa ad H locs ls 0 (by omega) (by omega) (by omega) (by omega) (hI0 fl hfl) hP hD hS hl
