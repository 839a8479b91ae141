set_option maxHeartbeats 16000000 in
set_option maxRecDepth 100000 in
theorem whole_start {p : Program} {e : Env} {s : State} {m : MethodId} {below : List Frame} {meth : Method} {c : Code} (l : Launch) {b L : Nat} {xs : Nat → Int32} (hL : L ≤ 4) (C0 : lw_At p s m meth c b L xs) : W p l e room_1 s m #[Value.ref b] below meth c s.heap [] 0 0 (lw_Z below #[Value.ref b] s) (entryFrame m ([Value.ref b] : List Value).toArray 4) := by
  obtain ⟨hx, hb, hr, hml, hown, hts0, hX, hbl, hlocks, hgv⟩ := id C0
  have hts : ∀ w ∈ wsL_law, w.before #[Value.ref b] s = true := fun w h => hts0 w (wsL_law_in w h)
  have hown : s.vm.findClass RL = some m.cls := hown
  have hAO : va_AO RX0 s := va_AO.of (hts0 (.arrayOver (.object RX0)) kq_over)
  have hN45 : va_Nw (.methodLinkNest RX3 45 yX1_init RX3) s := va_Nw.of rfl (hts0 _ kq_n45)
  have hN52 : va_Nw (.methodLinkNest RX3 52 yX2_init RX3) s := va_Nw.of rfl (hts0 _ kq_n52)
  obtain ⟨A, hAe⟩ : ∃ A : Nat → Prop, A = (fun q : Nat => s.heap.size ≤ q) := ⟨_, rfl⟩
  have hA : ∀ q : Nat, s.heap.size ≤ q → A q := fun q h => by rw [hAe]; exact h
  have hAf : ∀ q : Nat, A q → s.heap.size ≤ q := fun q h => by rw [hAe] at h; exact h
  have hbA : ¬ A b := fun h => absurd (hAf b h) (Nat.not_le.mpr hbl)
  obtain ⟨c0, iS0, hKn0⟩ := u_known (C := RX0) (T := TX0) (N := 20) (n := 20) hts0 inX0 (hts0 (.instantiable RX0 20) kq_i0)
  obtain ⟨c1, iS1, hKn1⟩ := u_known (C := RX1) (T := TX1) (N := 3) (n := 3) hts0 inX1 (hts0 (.instantiable RX1 3) kq_i1)
  obtain ⟨c2, iS2, hKn2⟩ := u_known (C := RX2) (T := TX2) (N := 3) (n := 3) hts0 inX2 (hts0 (.instantiable RX2 3) kq_i2)
  obtain ⟨c3, iS3, hKn3⟩ := u_known (C := RX3) (T := TX3) (N := 18) (n := 18) hts0 inX3 (hts0 (.instantiable RX3 18) kq_i3)
  obtain ⟨c4, iS4, hKn4⟩ := u_known (C := RX4) (T := TX4) (N := 39) (n := 39) hts0 inX4 (hts0 (.instantiable RX4 39) kq_i4)
  obtain ⟨D, hKc⟩ : ∃ (D : va_G), ∀ (k : Nat) (q : vw_C), vwCl[k]? = some q → u_Kn s q.1 q.2.1 q.2.2 (D.1 k) (D.2 k) := by
    refine ⟨(fun k => if k = 0 then c0 else if k = 1 then c1 else if k = 2 then c2 else if k = 3 then c3 else c4, fun k => if k = 0 then iS0 else if k = 1 then iS1 else if k = 2 then iS2 else if k = 3 then iS3 else iS4), ?_⟩
    intro k q hq
    match k, hq with
    | 0, hq => cases hq; exact hKn0
    | 1, hq => cases hq; exact hKn1
    | 2, hq => cases hq; exact hKn2
    | 3, hq => cases hq; exact hKn3
    | 4, hq => cases hq; exact hKn4
    | k + 5, hq => simp [vwCl] at hq
  have hS : va_S A s.heap s.heap [] := va_S.rf
  have hK : va_K D vwCl [] s := ⟨hKc, fun k q h => by simp at h⟩
  have hP : va_P D vwCl [] s.heap := fun k q h => by simp at h
  have hD : va_D A [] := ⟨fun i j p q h => by simp at h, fun k q h => by simp at h⟩
  have hLi : (Int32.ofNat L).toInt = (L : Int) := nI_toInt (n := L) (by omega)
  have hl4 : (4 : Int32).toInt = 4 := by decide
  have hl0 : (0 : Int32).toInt = 0 := by decide
  have hL4 := k_sub (x := Int32.ofNat L) (y := 4) (by omega) (by omega)
  have hl := lv_entry ([.ref b]) (n := 4) (Nat.le_of_ble_eq_true rfl)
  rw [lg_entry_eq]
  generalize (lg_sl ([.ref b]) ++ List.replicate (4 - (lg_sl ([.ref b])).length) Slot.unset).toArray = ls at hl ⊢
  have hl : lv_has ls 4 [(0, .ref b)] := hl
  refine va_new (ci := 3) (fs := [.null, .null, .null, .null, .null, .null, .null, .null, .null, .null, .null, .null, .int 0, .int 0, .int 0, .int 0, .int 0, .int 0]) (C := RX3) (T := TX3) (N := 18) hx hb hts kin_L_law_X3 tyX3 tyX3_ok hown (hts _ kw_L_law__classLink_RL_7_RX3) (hts _ kw_L_law__instantiable_RX3_18) (hts _ kw_L_law__initialized_RX3) hK hP hD hS hA rfl (fun j hj => by revert j; decide) (by decide) (by decide) dL_law_0 (fun q0 H hP hD hS => ?_)
  refine W.widen (k := 1) (n := 18) (by decide) (by decide) ?_
  have hP : va_P D vwCl [(q0, .inr (3, [.null, .null, .null, .null, .null, .null, .null, .null, .null, .null, .null, .null, .int 0, .int 0, .int 0, .int 0, .int 0, .int 0]))] H := hP
  have hD : va_D A [(q0, .inr (3, [.null, .null, .null, .null, .null, .null, .null, .null, .null, .null, .null, .null, .int 0, .int 0, .int 0, .int 0, .int 0, .int 0]))] := hD
  refine lv_dup hx hb dL_law_3 rfl ?_
  have hPc := hP.sub (ws' := [(q0, .inr (3, [.null, .null, .null, .null, .null, .null, .null, .null, .null, .null, .null, .null, .int 0, .int 0, .int 0, .int 0, .int 0, .int 0]))]) [0] rfl
  have hDc := hD.sub (ws' := [(q0, .inr (3, [.null, .null, .null, .null, .null, .null, .null, .null, .null, .null, .null, .null, .int 0, .int 0, .int 0, .int 0, .int 0, .int 0]))]) [0] (by decide) rfl
  have hKc := hK.sub (tys' := []) [] rfl
  have hFc := va_free (wc := [(q0, .inr (3, [.null, .null, .null, .null, .null, .null, .null, .null, .null, .null, .null, .null, .int 0, .int 0, .int 0, .int 0, .int 0, .int 0]))]) hD hS hA [0] rfl
  refine va_callv (va_runI (As := []) (rest := [.ref q0]) ⟨hx, hb, hml, hown, hts⟩ (c_X3_init (l := l) (D := D) (h := q0) ) (cwI 0 hts gL_law_X3_init rfl rfl rfl (hts _ kw_L_law__initialized_RX3) (hts _ kw_L_law__methodLink_RL_9_yX3_init) (hts _ kw_L_law__instanceMethod_yX3_init) rfl (by decide +kernel) ⟨Nat.le_of_ble_eq_true rfl, Nat.le_of_ble_eq_true rfl⟩) ⟨k_blindO, fun U hU hW => ⟨rfl, k_pre hU hW hPc hKc hDc, va_AO.moved hW.alike hAO, va_Nw.warmM hW hN45, va_Nw.warmM hW hN52⟩⟩ rfl rfl hl.1 rfl (lv_room (Nat.le_of_ble_eq_true rfl)) dL_law_4 ⟨by decide, by decide⟩) hS (fun q _ h => hFc q h) hFc (fun u t H1 locs ht hvm hw hB hz1 hk1 hS => ?_)
  refine W.widen (k := 16) (n := 780) (by decide) (by decide) ?_
  obtain ⟨xprogramSteps_1, xprogramLengths_1, xlimits_1, xfloors_1, xvalues_1, xacts_1, xorder_1, xdoneRow_1, xrunning_1, xbegunOfClass_1, xbook_1, xwaits_1, en_1, dr_1, rc_1, fl_1, cI_1, cO_1, cJ_1, rfl⟩ := hw
  obtain ⟨hP1, hK1, hD1⟩ := hB
  rw [ht] at hP1
  have hK1 := va_K.moved hvm.symm hK1
  obtain ⟨hP, hD⟩ := va_join (wr := []) (w1 := [(q0, .inr (3, [.ref xprogramSteps_1, .ref xprogramLengths_1, .ref xlimits_1, .ref xfloors_1, .ref xvalues_1, .ref xacts_1, .ref xorder_1, .ref xdoneRow_1, .ref xrunning_1, .ref xbegunOfClass_1, .ref xbook_1, .ref xwaits_1, .int 0, .int 0, .int 0, .int 0, .int 0, .int 0])), (xprogramSteps_1, .inl (cI_1, 96, .inl (fun _ => 0))), (xprogramLengths_1, .inl (cI_1, 8, .inl (fun _ => 0))), (xlimits_1, .inl (cI_1, 4, .inl fl_1)), (xfloors_1, .inl (cI_1, 8, .inl (fun _ => 0))), (xvalues_1, .inl (cI_1, 32, .inl (fun _ => 0))), (xacts_1, .inl (cO_1, 80, .inr (.inr (.inr (.inr (fun _ => none)))))), (xorder_1, .inl (cI_1, 80, .inl (fun _ => 0))), (xdoneRow_1, .inl (cI_1, 80, .inl (fun _ => 0))), (xrunning_1, .inl (cI_1, 36, .inl (fun _ => 0))), (xbegunOfClass_1, .inl (cI_1, 4, .inl (fun _ => 0))), (xbook_1, .inr (1, [.ref en_1, .int 0, .int 0])), (en_1, .inl (cI_1, 256, .inl (fun _ => 0))), (xwaits_1, .inr (2, [.ref dr_1, .ref rc_1, .int 0])), (dr_1, .inl (cJ_1, 36, .inr (.inl (fun _ => 0)))), (rc_1, .inl (cJ_1, 36, .inr (.inl (fun _ => 0))))]) hP hD [0] [] rfl rfl (by decide) (by decide) hk1 hFc hP1 hD1
  generalize H1 = H at hP hS ⊢
  have hP : va_P D vwCl [(q0, .inr (3, [.ref xprogramSteps_1, .ref xprogramLengths_1, .ref xlimits_1, .ref xfloors_1, .ref xvalues_1, .ref xacts_1, .ref xorder_1, .ref xdoneRow_1, .ref xrunning_1, .ref xbegunOfClass_1, .ref xbook_1, .ref xwaits_1, .int 0, .int 0, .int 0, .int 0, .int 0, .int 0])), (xprogramSteps_1, .inl (cI_1, 96, .inl (fun _ => 0))), (xprogramLengths_1, .inl (cI_1, 8, .inl (fun _ => 0))), (xlimits_1, .inl (cI_1, 4, .inl fl_1)), (xfloors_1, .inl (cI_1, 8, .inl (fun _ => 0))), (xvalues_1, .inl (cI_1, 32, .inl (fun _ => 0))), (xacts_1, .inl (cO_1, 80, .inr (.inr (.inr (.inr (fun _ => none)))))), (xorder_1, .inl (cI_1, 80, .inl (fun _ => 0))), (xdoneRow_1, .inl (cI_1, 80, .inl (fun _ => 0))), (xrunning_1, .inl (cI_1, 36, .inl (fun _ => 0))), (xbegunOfClass_1, .inl (cI_1, 4, .inl (fun _ => 0))), (xbook_1, .inr (1, [.ref en_1, .int 0, .int 0])), (en_1, .inl (cI_1, 256, .inl (fun _ => 0))), (xwaits_1, .inr (2, [.ref dr_1, .ref rc_1, .int 0])), (dr_1, .inl (cJ_1, 36, .inr (.inl (fun _ => 0)))), (rc_1, .inl (cJ_1, 36, .inr (.inl (fun _ => 0))))] H := hP
  have hD : va_D A [(q0, .inr (3, [.ref xprogramSteps_1, .ref xprogramLengths_1, .ref xlimits_1, .ref xfloors_1, .ref xvalues_1, .ref xacts_1, .ref xorder_1, .ref xdoneRow_1, .ref xrunning_1, .ref xbegunOfClass_1, .ref xbook_1, .ref xwaits_1, .int 0, .int 0, .int 0, .int 0, .int 0, .int 0])), (xprogramSteps_1, .inl (cI_1, 96, .inl (fun _ => 0))), (xprogramLengths_1, .inl (cI_1, 8, .inl (fun _ => 0))), (xlimits_1, .inl (cI_1, 4, .inl fl_1)), (xfloors_1, .inl (cI_1, 8, .inl (fun _ => 0))), (xvalues_1, .inl (cI_1, 32, .inl (fun _ => 0))), (xacts_1, .inl (cO_1, 80, .inr (.inr (.inr (.inr (fun _ => none)))))), (xorder_1, .inl (cI_1, 80, .inl (fun _ => 0))), (xdoneRow_1, .inl (cI_1, 80, .inl (fun _ => 0))), (xrunning_1, .inl (cI_1, 36, .inl (fun _ => 0))), (xbegunOfClass_1, .inl (cI_1, 4, .inl (fun _ => 0))), (xbook_1, .inr (1, [.ref en_1, .int 0, .int 0])), (en_1, .inl (cI_1, 256, .inl (fun _ => 0))), (xwaits_1, .inr (2, [.ref dr_1, .ref rc_1, .int 0])), (dr_1, .inl (cJ_1, 36, .inr (.inl (fun _ => 0)))), (rc_1, .inl (cJ_1, 36, .inr (.inl (fun _ => 0))))] := hD
  have hK : va_K D vwCl [(cI_1, .int), (cO_1, .object RX0), (cJ_1, .long)] s := hK.app (hK1.sub (tys' := [(cI_1, .int), (cO_1, .object RX0), (cJ_1, .long)]) [0, 1, 2] rfl)
  refine lv_astore_n (lv' := [(1, .ref q0), (0, .ref b)]) hx hb dL_law_7 rfl hl (by decide) rfl (fun ls hl => ?_)
  refine va_new (ci := 4) (fs := [.int 0, .null, .null, .null, .null, .null, .null, .int 0, .null, .null, .null, .null, .null, .null, .null, .null, .null, .null, .null, .null, .null, .null, .null, .null, .null, .null, .null, .null, .null, .int 0, .null, .int 0, .int 0, .null, .int 0, .int 0, .null, .null, .null]) (C := RX4) (T := TX4) (N := 39) hx hb hts kin_L_law_X4 tyX4 tyX4_ok hown (hts _ kw_L_law__classLink_RL_10_RX4) (hts _ kw_L_law__instantiable_RX4_39) (hts _ kw_L_law__initialized_RX4) hK hP hD hS hA rfl (fun j hj => by revert j; decide) (by decide) (by decide) dL_law_8 (fun q8 H hP hD hS => ?_)
  refine W.widen (k := 17) (n := 819) (by decide) (by decide) ?_
  have hP : va_P D vwCl [(q0, .inr (3, [.ref xprogramSteps_1, .ref xprogramLengths_1, .ref xlimits_1, .ref xfloors_1, .ref xvalues_1, .ref xacts_1, .ref xorder_1, .ref xdoneRow_1, .ref xrunning_1, .ref xbegunOfClass_1, .ref xbook_1, .ref xwaits_1, .int 0, .int 0, .int 0, .int 0, .int 0, .int 0])), (xprogramSteps_1, .inl (cI_1, 96, .inl (fun _ => 0))), (xprogramLengths_1, .inl (cI_1, 8, .inl (fun _ => 0))), (xlimits_1, .inl (cI_1, 4, .inl fl_1)), (xfloors_1, .inl (cI_1, 8, .inl (fun _ => 0))), (xvalues_1, .inl (cI_1, 32, .inl (fun _ => 0))), (xacts_1, .inl (cO_1, 80, .inr (.inr (.inr (.inr (fun _ => none)))))), (xorder_1, .inl (cI_1, 80, .inl (fun _ => 0))), (xdoneRow_1, .inl (cI_1, 80, .inl (fun _ => 0))), (xrunning_1, .inl (cI_1, 36, .inl (fun _ => 0))), (xbegunOfClass_1, .inl (cI_1, 4, .inl (fun _ => 0))), (xbook_1, .inr (1, [.ref en_1, .int 0, .int 0])), (en_1, .inl (cI_1, 256, .inl (fun _ => 0))), (xwaits_1, .inr (2, [.ref dr_1, .ref rc_1, .int 0])), (dr_1, .inl (cJ_1, 36, .inr (.inl (fun _ => 0)))), (rc_1, .inl (cJ_1, 36, .inr (.inl (fun _ => 0)))), (q8, .inr (4, [.int 0, .null, .null, .null, .null, .null, .null, .int 0, .null, .null, .null, .null, .null, .null, .null, .null, .null, .null, .null, .null, .null, .null, .null, .null, .null, .null, .null, .null, .null, .int 0, .null, .int 0, .int 0, .null, .int 0, .int 0, .null, .null, .null]))] H := hP
  have hD : va_D A [(q0, .inr (3, [.ref xprogramSteps_1, .ref xprogramLengths_1, .ref xlimits_1, .ref xfloors_1, .ref xvalues_1, .ref xacts_1, .ref xorder_1, .ref xdoneRow_1, .ref xrunning_1, .ref xbegunOfClass_1, .ref xbook_1, .ref xwaits_1, .int 0, .int 0, .int 0, .int 0, .int 0, .int 0])), (xprogramSteps_1, .inl (cI_1, 96, .inl (fun _ => 0))), (xprogramLengths_1, .inl (cI_1, 8, .inl (fun _ => 0))), (xlimits_1, .inl (cI_1, 4, .inl fl_1)), (xfloors_1, .inl (cI_1, 8, .inl (fun _ => 0))), (xvalues_1, .inl (cI_1, 32, .inl (fun _ => 0))), (xacts_1, .inl (cO_1, 80, .inr (.inr (.inr (.inr (fun _ => none)))))), (xorder_1, .inl (cI_1, 80, .inl (fun _ => 0))), (xdoneRow_1, .inl (cI_1, 80, .inl (fun _ => 0))), (xrunning_1, .inl (cI_1, 36, .inl (fun _ => 0))), (xbegunOfClass_1, .inl (cI_1, 4, .inl (fun _ => 0))), (xbook_1, .inr (1, [.ref en_1, .int 0, .int 0])), (en_1, .inl (cI_1, 256, .inl (fun _ => 0))), (xwaits_1, .inr (2, [.ref dr_1, .ref rc_1, .int 0])), (dr_1, .inl (cJ_1, 36, .inr (.inl (fun _ => 0)))), (rc_1, .inl (cJ_1, 36, .inr (.inl (fun _ => 0)))), (q8, .inr (4, [.int 0, .null, .null, .null, .null, .null, .null, .int 0, .null, .null, .null, .null, .null, .null, .null, .null, .null, .null, .null, .null, .null, .null, .null, .null, .null, .null, .null, .null, .null, .int 0, .null, .int 0, .int 0, .null, .int 0, .int 0, .null, .null, .null]))] := hD
  refine lv_dup hx hb dL_law_11 rfl ?_
  have hPc := hP.sub (ws' := [(q8, .inr (4, [.int 0, .null, .null, .null, .null, .null, .null, .int 0, .null, .null, .null, .null, .null, .null, .null, .null, .null, .null, .null, .null, .null, .null, .null, .null, .null, .null, .null, .null, .null, .int 0, .null, .int 0, .int 0, .null, .int 0, .int 0, .null, .null, .null]))]) [16] rfl
  have hDc := hD.sub (ws' := [(q8, .inr (4, [.int 0, .null, .null, .null, .null, .null, .null, .int 0, .null, .null, .null, .null, .null, .null, .null, .null, .null, .null, .null, .null, .null, .null, .null, .null, .null, .null, .null, .null, .null, .int 0, .null, .int 0, .int 0, .null, .int 0, .int 0, .null, .null, .null]))]) [16] (by decide) rfl
  have hKc := hK.sub (tys' := [(cI_1, .int)]) [0] rfl
  have hFc := va_free (wc := [(q8, .inr (4, [.int 0, .null, .null, .null, .null, .null, .null, .int 0, .null, .null, .null, .null, .null, .null, .null, .null, .null, .null, .null, .null, .null, .null, .null, .null, .null, .null, .null, .null, .null, .int 0, .null, .int 0, .int 0, .null, .int 0, .int 0, .null, .null, .null]))]) hD hS hA [16] rfl
  refine va_callv (va_runI (As := []) (rest := [.ref q8]) ⟨hx, hb, hml, hown, hts⟩ (c_X4_init (l := l) (D := D) (h := q8) (cI := cI_1) ) (cwI 0 hts gL_law_X4_init rfl rfl rfl (hts _ kw_L_law__initialized_RX4) (hts _ kw_L_law__methodLink_RL_12_yX4_init) (hts _ kw_L_law__instanceMethod_yX4_init) rfl (by decide +kernel) ⟨Nat.le_of_ble_eq_true rfl, Nat.le_of_ble_eq_true rfl⟩) ⟨k_blind, fun U hU hW => ⟨rfl, k_pre hU hW hPc hKc hDc⟩⟩ rfl rfl hl.1 rfl (lv_room (Nat.le_of_ble_eq_true rfl)) dL_law_12 ⟨by decide, by decide⟩) hS (fun q _ h => hFc q h) hFc (fun u t H1 locs ht hvm hw hB hz1 hk1 hS => ?_)
  refine W.widen (k := 49) (n := 13528) (by decide) (by decide) ?_
  obtain ⟨mcells_2, mcounters_2, mfloors_2, mlimits_2, mlongs_2, msteps_2, mprogram_2, mkind_2, mrank_2, mstate_2, mactLong_2, mactSteps_2, mat_2, mregister_2, misHeld_2, mdoneIn_2, mundone_2, mby_2, mbegunIn_2, misVoid_2, misAgain_2, mholds_2, mwrites_2, mgives_2, mbelow_2, mqueued_2, mqueuedMany_2, mdone_2, mlog_2, morder_2, misReached_2, mqueue_2, fl_2, rfl⟩ := hw
  obtain ⟨hP1, hK1, hD1⟩ := hB
  rw [ht] at hP1
  have hK1 := va_K.moved hvm.symm hK1
  obtain ⟨hP, hD⟩ := va_join (wr := [(q0, .inr (3, [.ref xprogramSteps_1, .ref xprogramLengths_1, .ref xlimits_1, .ref xfloors_1, .ref xvalues_1, .ref xacts_1, .ref xorder_1, .ref xdoneRow_1, .ref xrunning_1, .ref xbegunOfClass_1, .ref xbook_1, .ref xwaits_1, .int 0, .int 0, .int 0, .int 0, .int 0, .int 0])), (xprogramSteps_1, .inl (cI_1, 96, .inl (fun _ => 0))), (xprogramLengths_1, .inl (cI_1, 8, .inl (fun _ => 0))), (xlimits_1, .inl (cI_1, 4, .inl fl_1)), (xfloors_1, .inl (cI_1, 8, .inl (fun _ => 0))), (xvalues_1, .inl (cI_1, 32, .inl (fun _ => 0))), (xacts_1, .inl (cO_1, 80, .inr (.inr (.inr (.inr (fun _ => none)))))), (xorder_1, .inl (cI_1, 80, .inl (fun _ => 0))), (xdoneRow_1, .inl (cI_1, 80, .inl (fun _ => 0))), (xrunning_1, .inl (cI_1, 36, .inl (fun _ => 0))), (xbegunOfClass_1, .inl (cI_1, 4, .inl (fun _ => 0))), (xbook_1, .inr (1, [.ref en_1, .int 0, .int 0])), (en_1, .inl (cI_1, 256, .inl (fun _ => 0))), (xwaits_1, .inr (2, [.ref dr_1, .ref rc_1, .int 0])), (dr_1, .inl (cJ_1, 36, .inr (.inl (fun _ => 0)))), (rc_1, .inl (cJ_1, 36, .inr (.inl (fun _ => 0))))]) (w1 := [(q8, .inr (4, [.int 0, .ref mcells_2, .ref mcounters_2, .ref mfloors_2, .ref mlimits_2, .ref mlongs_2, .ref msteps_2, .int 0, .ref mprogram_2, .ref mkind_2, .ref mrank_2, .ref mstate_2, .ref mactLong_2, .ref mactSteps_2, .ref mat_2, .ref mregister_2, .ref misHeld_2, .ref mdoneIn_2, .ref mundone_2, .ref mby_2, .ref mbegunIn_2, .ref misVoid_2, .ref misAgain_2, .ref mholds_2, .ref mwrites_2, .ref mgives_2, .ref mbelow_2, .ref mqueued_2, .ref mqueuedMany_2, .int 0, .ref mdone_2, .int 0, .int 0, .ref mlog_2, .int 0, .int 0, .ref morder_2, .ref misReached_2, .ref mqueue_2])), (mcells_2, .inl (cI_1, 24, .inl (fun _ => 0))), (mcounters_2, .inl (cI_1, 8, .inl (fun _ => 0))), (mfloors_2, .inl (cI_1, 8, .inl (fun _ => 0))), (mlimits_2, .inl (cI_1, 4, .inl fl_2)), (mlongs_2, .inl (cI_1, 8, .inl (fun _ => 0))), (msteps_2, .inl (cI_1, 96, .inl (fun _ => 0))), (mprogram_2, .inl (cI_1, 80, .inl (fun _ => 0))), (mkind_2, .inl (cI_1, 80, .inl (fun _ => 0))), (mrank_2, .inl (cI_1, 80, .inl (fun _ => 0))), (mby_2, .inl (cI_1, 80, .inl (fun _ => 0))), (mdoneIn_2, .inl (cI_1, 80, .inl (fun _ => 0))), (mbegunIn_2, .inl (cI_1, 80, .inl (fun _ => 0)))]) hP hD [16] [0, 1, 2, 3, 4, 5, 6, 7, 8, 9, 10, 11, 12, 13, 14, 15] rfl rfl (by decide) (by decide) hk1 hFc hP1 hD1
  generalize H1 = H at hP hS ⊢
  have hP : va_P D vwCl [(q0, .inr (3, [.ref xprogramSteps_1, .ref xprogramLengths_1, .ref xlimits_1, .ref xfloors_1, .ref xvalues_1, .ref xacts_1, .ref xorder_1, .ref xdoneRow_1, .ref xrunning_1, .ref xbegunOfClass_1, .ref xbook_1, .ref xwaits_1, .int 0, .int 0, .int 0, .int 0, .int 0, .int 0])), (xprogramSteps_1, .inl (cI_1, 96, .inl (fun _ => 0))), (xprogramLengths_1, .inl (cI_1, 8, .inl (fun _ => 0))), (xlimits_1, .inl (cI_1, 4, .inl fl_1)), (xfloors_1, .inl (cI_1, 8, .inl (fun _ => 0))), (xvalues_1, .inl (cI_1, 32, .inl (fun _ => 0))), (xacts_1, .inl (cO_1, 80, .inr (.inr (.inr (.inr (fun _ => none)))))), (xorder_1, .inl (cI_1, 80, .inl (fun _ => 0))), (xdoneRow_1, .inl (cI_1, 80, .inl (fun _ => 0))), (xrunning_1, .inl (cI_1, 36, .inl (fun _ => 0))), (xbegunOfClass_1, .inl (cI_1, 4, .inl (fun _ => 0))), (xbook_1, .inr (1, [.ref en_1, .int 0, .int 0])), (en_1, .inl (cI_1, 256, .inl (fun _ => 0))), (xwaits_1, .inr (2, [.ref dr_1, .ref rc_1, .int 0])), (dr_1, .inl (cJ_1, 36, .inr (.inl (fun _ => 0)))), (rc_1, .inl (cJ_1, 36, .inr (.inl (fun _ => 0)))), (q8, .inr (4, [.int 0, .ref mcells_2, .ref mcounters_2, .ref mfloors_2, .ref mlimits_2, .ref mlongs_2, .ref msteps_2, .int 0, .ref mprogram_2, .ref mkind_2, .ref mrank_2, .ref mstate_2, .ref mactLong_2, .ref mactSteps_2, .ref mat_2, .ref mregister_2, .ref misHeld_2, .ref mdoneIn_2, .ref mundone_2, .ref mby_2, .ref mbegunIn_2, .ref misVoid_2, .ref misAgain_2, .ref mholds_2, .ref mwrites_2, .ref mgives_2, .ref mbelow_2, .ref mqueued_2, .ref mqueuedMany_2, .int 0, .ref mdone_2, .int 0, .int 0, .ref mlog_2, .int 0, .int 0, .ref morder_2, .ref misReached_2, .ref mqueue_2])), (mcells_2, .inl (cI_1, 24, .inl (fun _ => 0))), (mcounters_2, .inl (cI_1, 8, .inl (fun _ => 0))), (mfloors_2, .inl (cI_1, 8, .inl (fun _ => 0))), (mlimits_2, .inl (cI_1, 4, .inl fl_2)), (mlongs_2, .inl (cI_1, 8, .inl (fun _ => 0))), (msteps_2, .inl (cI_1, 96, .inl (fun _ => 0))), (mprogram_2, .inl (cI_1, 80, .inl (fun _ => 0))), (mkind_2, .inl (cI_1, 80, .inl (fun _ => 0))), (mrank_2, .inl (cI_1, 80, .inl (fun _ => 0))), (mby_2, .inl (cI_1, 80, .inl (fun _ => 0))), (mdoneIn_2, .inl (cI_1, 80, .inl (fun _ => 0))), (mbegunIn_2, .inl (cI_1, 80, .inl (fun _ => 0)))] H := hP
  have hD : va_D A [(q0, .inr (3, [.ref xprogramSteps_1, .ref xprogramLengths_1, .ref xlimits_1, .ref xfloors_1, .ref xvalues_1, .ref xacts_1, .ref xorder_1, .ref xdoneRow_1, .ref xrunning_1, .ref xbegunOfClass_1, .ref xbook_1, .ref xwaits_1, .int 0, .int 0, .int 0, .int 0, .int 0, .int 0])), (xprogramSteps_1, .inl (cI_1, 96, .inl (fun _ => 0))), (xprogramLengths_1, .inl (cI_1, 8, .inl (fun _ => 0))), (xlimits_1, .inl (cI_1, 4, .inl fl_1)), (xfloors_1, .inl (cI_1, 8, .inl (fun _ => 0))), (xvalues_1, .inl (cI_1, 32, .inl (fun _ => 0))), (xacts_1, .inl (cO_1, 80, .inr (.inr (.inr (.inr (fun _ => none)))))), (xorder_1, .inl (cI_1, 80, .inl (fun _ => 0))), (xdoneRow_1, .inl (cI_1, 80, .inl (fun _ => 0))), (xrunning_1, .inl (cI_1, 36, .inl (fun _ => 0))), (xbegunOfClass_1, .inl (cI_1, 4, .inl (fun _ => 0))), (xbook_1, .inr (1, [.ref en_1, .int 0, .int 0])), (en_1, .inl (cI_1, 256, .inl (fun _ => 0))), (xwaits_1, .inr (2, [.ref dr_1, .ref rc_1, .int 0])), (dr_1, .inl (cJ_1, 36, .inr (.inl (fun _ => 0)))), (rc_1, .inl (cJ_1, 36, .inr (.inl (fun _ => 0)))), (q8, .inr (4, [.int 0, .ref mcells_2, .ref mcounters_2, .ref mfloors_2, .ref mlimits_2, .ref mlongs_2, .ref msteps_2, .int 0, .ref mprogram_2, .ref mkind_2, .ref mrank_2, .ref mstate_2, .ref mactLong_2, .ref mactSteps_2, .ref mat_2, .ref mregister_2, .ref misHeld_2, .ref mdoneIn_2, .ref mundone_2, .ref mby_2, .ref mbegunIn_2, .ref misVoid_2, .ref misAgain_2, .ref mholds_2, .ref mwrites_2, .ref mgives_2, .ref mbelow_2, .ref mqueued_2, .ref mqueuedMany_2, .int 0, .ref mdone_2, .int 0, .int 0, .ref mlog_2, .int 0, .int 0, .ref morder_2, .ref misReached_2, .ref mqueue_2])), (mcells_2, .inl (cI_1, 24, .inl (fun _ => 0))), (mcounters_2, .inl (cI_1, 8, .inl (fun _ => 0))), (mfloors_2, .inl (cI_1, 8, .inl (fun _ => 0))), (mlimits_2, .inl (cI_1, 4, .inl fl_2)), (mlongs_2, .inl (cI_1, 8, .inl (fun _ => 0))), (msteps_2, .inl (cI_1, 96, .inl (fun _ => 0))), (mprogram_2, .inl (cI_1, 80, .inl (fun _ => 0))), (mkind_2, .inl (cI_1, 80, .inl (fun _ => 0))), (mrank_2, .inl (cI_1, 80, .inl (fun _ => 0))), (mby_2, .inl (cI_1, 80, .inl (fun _ => 0))), (mdoneIn_2, .inl (cI_1, 80, .inl (fun _ => 0))), (mbegunIn_2, .inl (cI_1, 80, .inl (fun _ => 0)))] := hD
  refine lv_astore_n (lv' := [(2, .ref q8), (1, .ref q0), (0, .ref b)]) hx hb dL_law_15 rfl hl (by decide) rfl (fun ls hl => ?_)
  refine lv_iconst (v := 0) hx hb dL_law_16 (by decide) ?_
  refine lv_istore_n (lv' := [(3, .int 0), (2, .ref q8), (1, .ref q0), (0, .ref b)]) hx hb dL_law_17 rfl hl (by decide) rfl (fun ls hl => ?_)
  refine lv_iload_n hx hb dL_law_18 rfl (lv_at hl 0 rfl) ?_
  refine lv_aload_n hx hb dL_law_19 rfl (lv_at hl 3 rfl) ?_
  refine va_slen hx hb hX hbl hbA hS dL_law_20 ?_
  refine lv_iconst (v := 4) hx hb dL_law_21 (by decide) ?_
  refine lv_isub hx hb dL_law_22 ?_
  refine lv_icmp_gt (tgt := 522) hx hb dL_law_23 (by decide) (fun c3 => ?_) (fun c3 => ?_)
  · skip
    have c3 := k_lt c3
    have hl0 : (0 : Int32).toInt = 0 := by decide
    refine lv_iconst (v := 1) hx hb dL_law_522 (by decide) ?_
    refine va_forget (fun q hq => hAf _ (hS.2.2 q hq)) ?_
    refine W.widen (k := 600000) (n := 7302250) (by decide) (by decide) ?_
    exact lw_ret hx hb hr hlocks dL_law_523
  · skip
    have c3 := k_nlt c3
    have hl0 : (0 : Int32).toInt = 0 := by decide
    refine lv_aload_n hx hb dL_law_26 rfl (lv_at hl 3 rfl) ?_
    refine lv_iload_n hx hb dL_law_27 rfl (lv_at hl 0 rfl) ?_
    have hi28 : vp_in (0 : Int32) L := k_in (by decide) (by rw [show (0 : Int32).toInt = 0 from by decide]; omega)
    refine va_sld hx hb hX hbl hbA hS hi28 dL_law_28 ?_
    refine lv_bipush (v := 15) hx hb dL_law_29 (by decide) ?_
    refine lv_iand hx hb dL_law_31 ?_
    by_cases hs4 : ((xs (0 : Int32).toNatClampNeg) &&& 15).toInt < 0 ∨ 13 < ((xs (0 : Int32).toNatClampNeg) &&& 15).toInt
    · skip
      refine lv_tableOut (tgt := 516) hx hb dL_law_32 hs4 (by decide) ?_
      exact lc_516 (by omega) C0 hA hAf hK hP hD hS hl
    · skip
      have hs4 : ((xs (0 : Int32).toNatClampNeg) &&& 15).toInt = 0 ∨ ((xs (0 : Int32).toNatClampNeg) &&& 15).toInt = 1 ∨ ((xs (0 : Int32).toNatClampNeg) &&& 15).toInt = 2 ∨ ((xs (0 : Int32).toNatClampNeg) &&& 15).toInt = 3 ∨ ((xs (0 : Int32).toNatClampNeg) &&& 15).toInt = 4 ∨ ((xs (0 : Int32).toNatClampNeg) &&& 15).toInt = 5 ∨ ((xs (0 : Int32).toNatClampNeg) &&& 15).toInt = 6 ∨ ((xs (0 : Int32).toNatClampNeg) &&& 15).toInt = 7 ∨ ((xs (0 : Int32).toNatClampNeg) &&& 15).toInt = 8 ∨ ((xs (0 : Int32).toNatClampNeg) &&& 15).toInt = 9 ∨ ((xs (0 : Int32).toNatClampNeg) &&& 15).toInt = 10 ∨ ((xs (0 : Int32).toNatClampNeg) &&& 15).toInt = 11 ∨ ((xs (0 : Int32).toNatClampNeg) &&& 15).toInt = 12 ∨ ((xs (0 : Int32).toNatClampNeg) &&& 15).toInt = 13 := by omega
      rcases hs4 with hs4 | hs4 | hs4 | hs4 | hs4 | hs4 | hs4 | hs4 | hs4 | hs4 | hs4 | hs4 | hs4 | hs4
      · skip
        refine lv_tableIn (off := 72) (tgt := 104) hx hb dL_law_32 (by omega) (by omega) (by rw [hs4]; rfl) (by decide) ?_
        exact lc_104 (by omega) C0 hA hAf hK hP hD hS hl
      · skip
        refine lv_tableIn (off := 95) (tgt := 127) hx hb dL_law_32 (by omega) (by omega) (by rw [hs4]; rfl) (by decide) ?_
        exact lc_127 (by omega) C0 hA hAf hK hP hD hS hl
      · skip
        refine lv_tableIn (off := 128) (tgt := 160) hx hb dL_law_32 (by omega) (by omega) (by rw [hs4]; rfl) (by decide) ?_
        exact lc_160 (by omega) C0 hA hAf hK hP hD hS hl
      · skip
        refine lv_tableIn (off := 171) (tgt := 203) hx hb dL_law_32 (by omega) (by omega) (by rw [hs4]; rfl) (by decide) ?_
        exact lc_203 (by omega) C0 hA hAf hK hP hD hS hl
      · skip
        refine lv_tableIn (off := 204) (tgt := 236) hx hb dL_law_32 (by omega) (by omega) (by rw [hs4]; rfl) (by decide) ?_
        exact lc_236 (by omega) C0 hA hAf hK hP hD hS hl
      · skip
        refine lv_tableIn (off := 237) (tgt := 269) hx hb dL_law_32 (by omega) (by omega) (by rw [hs4]; rfl) (by decide) ?_
        exact lc_269 (by omega) C0 hA hAf hK hP hD hS hl
      · skip
        refine lv_tableIn (off := 260) (tgt := 292) hx hb dL_law_32 (by omega) (by omega) (by rw [hs4]; rfl) (by decide) ?_
        exact lc_292 (by omega) C0 hA hAf hK hP hD hS hl
      · skip
        refine lv_tableIn (off := 283) (tgt := 315) hx hb dL_law_32 (by omega) (by omega) (by rw [hs4]; rfl) (by decide) ?_
        exact lc_315 (by omega) C0 hA hAf hK hP hD hS hl
      · skip
        refine lv_tableIn (off := 316) (tgt := 348) hx hb dL_law_32 (by omega) (by omega) (by rw [hs4]; rfl) (by decide) ?_
        exact lc_348 (by omega) C0 hA hAf hK hP hD hS hl
      · skip
        refine lv_tableIn (off := 339) (tgt := 371) hx hb dL_law_32 (by omega) (by omega) (by rw [hs4]; rfl) (by decide) ?_
        exact lc_371 (by omega) C0 hA hAf hK hP hD hS hl
      · skip
        refine lv_tableIn (off := 372) (tgt := 404) hx hb dL_law_32 (by omega) (by omega) (by rw [hs4]; rfl) (by decide) ?_
        exact lc_404 (by omega) C0 hA hAf hK hP hD hS hl
      · skip
        refine lv_tableIn (off := 405) (tgt := 437) hx hb dL_law_32 (by omega) (by omega) (by rw [hs4]; rfl) (by decide) ?_
        exact lc_437 (by omega) C0 hA hAf hK hP hD hS hl
      · skip
        refine lv_tableIn (off := 428) (tgt := 460) hx hb dL_law_32 (by omega) (by omega) (by rw [hs4]; rfl) (by decide) ?_
        exact lc_460 (by omega) C0 hA hAf hK hP hD hS hl
      · skip
        refine lv_tableIn (off := 461) (tgt := 493) hx hb dL_law_32 (by omega) (by omega) (by rw [hs4]; rfl) (by decide) ?_
        exact lc_493 (by omega) C0 hA hAf hK hP hD hS hl
