/-- a STEP that can be, as 1 or 0 -/
def kv (x : Int32) : Int := if 0 ≤ x.toInt ∧ (x / 10000).toInt ≤ 8 ∧ (((x / 10000).toInt = 0 ∨ (x / 10000).toInt = 3 ∨ (x / 10000).toInt = 4) → (x / 100 - x / 100 / 100 * 100).toInt < 24) ∧ ((x / 10000).toInt = 6 → (x / 100 - x / 100 / 100 * 100).toInt < 8) ∧ ((x / 10000).toInt = 7 → (x / 100 - x / 100 / 100 * 100).toInt < 8) then 1 else 0
set_option maxHeartbeats 4000000 in
set_option maxRecDepth 100000 in
theorem c_X3_isStep {l : Launch} {D : va_G} {sz : Nat} {x : Int32}  : Met l yX3_isStep wsX3_isStep ({ frames := 1, cells := 0, slots := 0, locals := 20 }) (va_Pc [.int x] (k_Pre D [] [] sz)) (va_Qi (fun (r : Int32) (u : va_W × List (ClassId × FieldType)) => (r = 1 ∧ u = ([], []) ∧ kv x = 1) ∨ (r = 0 ∧ u = ([], []) ∧ kv x = 0)) (k_B D (va_A [] sz)) (va_A [] sz)) 0 0 (va_A [] sz) := by
  refine Met.ofW (cc := cX3_isStep) (maxL := 1) (ret := (some .boolean)) (by decide) rfl ?_
  intro p e s m args below meth c s₁ B hml hv
  obtain ⟨rfl, hsz, hP, hK, hD0⟩ := hv
  have hx := B.exec
  have hb := B.bytes
  have hr := B.returns
  have hts := atoms_spec (ws := wsX3_isStep) B.pre
  have hown : s.vm.findClass RX3 = some m.cls := findClass_of_methodNamed B.named
  have hlocks := B.notSynchronized
  subst hsz
  have hD := hD0.self (sz := s.heap.size)
  generalize hAe : va_A [] s.heap.size = A at hD ⊢
  have hA : ∀ q : Nat, s.heap.size ≤ q → A q := fun q h => by rw [← hAe]; exact Or.inr h
  have hS : va_S A s.heap s.heap [] := va_S.rf
  have hl := lv_entry ([.int x]) (n := 1) (Nat.le_of_ble_eq_true rfl)
  rw [lg_entry_eq]
  generalize (lg_sl ([.int x]) ++ List.replicate (1 - (lg_sl ([.int x])).length) Slot.unset).toArray = ls at hl ⊢
  have hl : lv_has ls 1 [(0, .int x)] := hl
  refine lv_iload_n hx hb dX3_isStep_0 rfl (lv_at hl 0 rfl) ?_
  refine lv_if_lt (tgt := 13) hx hb dX3_isStep_1 (by decide) (fun c1 => ?_) (fun c1 => ?_)
  · skip
    have c1 := k_lt c1
    have hl0 : (0 : Int32).toInt = 0 := by decide
    refine lv_iconst (v := 0) hx hb dX3_isStep_13 (by decide) ?_
    have hP := hP.sub (ws' := []) [] rfl
    have hD := hD.sub (ws' := []) [] (by decide) rfl
    have hK := hK.sub (tys' := []) [] rfl
    refine W.widen (k := 0) (n := 0) (by decide) (by decide) ?_
    exact W.zret (v := 0) hx hb hr (by decide) (fun t ht hW => ⟨⟨0, ([], []), rfl, Or.inr (⟨rfl, rfl, (by unfold kv; split <;> omega)⟩), ⟨by rw [ht]; exact hP, va_K.moved hW.alike hK, hD⟩⟩, hS.F ht⟩) hS.2.2 dX3_isStep_14
  · skip
    have c1 := k_nlt c1
    have hl0 : (0 : Int32).toInt = 0 := by decide
    refine lv_iload_n hx hb dX3_isStep_4 rfl (lv_at hl 0 rfl) ?_
    have hPc := hP.sub (ws' := []) [] rfl
    have hDc := hD.sub (ws' := []) [] (by decide) rfl
    have hKc := hK.sub (tys' := []) [] rfl
    have hFc := va_free (wc := []) hD hS hA [] rfl
    refine va_calli (va_runS (As := [.int x]) (rest := []) ⟨hx, hb, hml, hown, hts⟩ (c_X3_opOf (l := l) (D := D) (x := x) ) (va_cwS 1 hts gX3_isStep_X3_opOf rfl rfl rfl (by decide +kernel) ⟨Nat.le_of_ble_eq_true rfl, Nat.le_of_ble_eq_true rfl⟩) ⟨k_blind, fun U hU hW => ⟨rfl, k_pre hU hW hPc hKc hDc⟩⟩ rfl rfl hl.1 rfl (lv_room (Nat.le_of_ble_eq_true rfl)) dX3_isStep_5 ⟨by decide, by decide⟩) hS (fun q _ h => hFc q h) hFc (fun r2 u t H1 locs ht hvm hw hB hz1 hk1 hS => ?_)
    refine W.widen (k := 0) (n := 0) (Nat.le_refl _) (Nat.le_refl _) ?_
    obtain ⟨rfl, rfl⟩ := hw
    obtain ⟨hP1, hK1, hD1⟩ := hB
    rw [ht] at hP1
    have hK1 := va_K.moved hvm.symm hK1
    obtain ⟨hP, hD⟩ := va_join (wr := []) (w1 := []) hP hD [] [] rfl rfl (by decide) (by decide) hk1 hFc hP1 hD1
    generalize H1 = H at hP hS ⊢
    have hP : va_P D vwCl [] H := hP
    have hD : va_D A [] := hD
    refine lv_bipush (v := 8) hx hb dX3_isStep_8 (by decide) ?_
    refine lv_icmp_le (tgt := 15) hx hb dX3_isStep_10 (by decide) (fun c3 => ?_) (fun c3 => ?_)
    · skip
      have c3 := k_le c3
      have hl8 : (8 : Int32).toInt = 8 := by decide
      refine lv_iload_n hx hb dX3_isStep_15 rfl (lv_at hl 0 rfl) ?_
      have hPc := hP.sub (ws' := []) [] rfl
      have hDc := hD.sub (ws' := []) [] (by decide) rfl
      have hKc := hK.sub (tys' := []) [] rfl
      have hFc := va_free (wc := []) hD hS hA [] rfl
      refine va_calli (va_runS (As := [.int x]) (rest := []) ⟨hx, hb, hml, hown, hts⟩ (c_X3_opOf (l := l) (D := D) (x := x) ) (va_cwS 1 hts gX3_isStep_X3_opOf rfl rfl rfl (by decide +kernel) ⟨Nat.le_of_ble_eq_true rfl, Nat.le_of_ble_eq_true rfl⟩) ⟨k_blind, fun U hU hW => ⟨rfl, k_pre hU hW hPc hKc hDc⟩⟩ rfl rfl hl.1 rfl (lv_room (Nat.le_of_ble_eq_true rfl)) dX3_isStep_16 ⟨by decide, by decide⟩) hS (fun q _ h => hFc q h) hFc (fun r4 u t H1 locs ht hvm hw hB hz1 hk1 hS => ?_)
      refine W.widen (k := 0) (n := 0) (Nat.le_refl _) (Nat.le_refl _) ?_
      obtain ⟨rfl, rfl⟩ := hw
      obtain ⟨hP1, hK1, hD1⟩ := hB
      rw [ht] at hP1
      have hK1 := va_K.moved hvm.symm hK1
      obtain ⟨hP, hD⟩ := va_join (wr := []) (w1 := []) hP hD [] [] rfl rfl (by decide) (by decide) hk1 hFc hP1 hD1
      generalize H1 = H at hP hS ⊢
      have hP : va_P D vwCl [] H := hP
      have hD : va_D A [] := hD
      by_cases hs5 : (x / 10000).toInt < 0 ∨ 7 < (x / 10000).toInt
      · skip
        refine lv_tableOut (tgt := 109) hx hb dX3_isStep_19 hs5 (by decide) ?_
        refine lv_iconst (v := 1) hx hb dX3_isStep_109 (by decide) ?_
        have hP := hP.sub (ws' := []) [] rfl
        have hD := hD.sub (ws' := []) [] (by decide) rfl
        have hK := hK.sub (tys' := []) [] rfl
        refine W.widen (k := 0) (n := 0) (by decide) (by decide) ?_
        exact W.zret (v := 1) hx hb hr (by decide) (fun t ht hW => ⟨⟨1, ([], []), rfl, Or.inl ⟨rfl, rfl, (by unfold kv; split <;> omega)⟩, ⟨by rw [ht]; exact hP, va_K.moved hW.alike hK, hD⟩⟩, hS.F ht⟩) hS.2.2 dX3_isStep_110
      · skip
        have hs5 : (x / 10000).toInt = 0 ∨ (x / 10000).toInt = 1 ∨ (x / 10000).toInt = 2 ∨ (x / 10000).toInt = 3 ∨ (x / 10000).toInt = 4 ∨ (x / 10000).toInt = 5 ∨ (x / 10000).toInt = 6 ∨ (x / 10000).toInt = 7 := by omega
        rcases hs5 with hs5 | hs5 | hs5 | hs5 | hs5 | hs5 | hs5 | hs5
        · skip
          refine lv_tableIn (off := 45) (tgt := 64) hx hb dX3_isStep_19 (by omega) (by omega) (by rw [hs5]; rfl) (by decide) ?_
          refine lv_iload_n hx hb dX3_isStep_64 rfl (lv_at hl 0 rfl) ?_
          have hPc := hP.sub (ws' := []) [] rfl
          have hDc := hD.sub (ws' := []) [] (by decide) rfl
          have hKc := hK.sub (tys' := []) [] rfl
          have hFc := va_free (wc := []) hD hS hA [] rfl
          refine va_calli (va_runS (As := [.int x]) (rest := []) ⟨hx, hb, hml, hown, hts⟩ (c_X3_aOf (l := l) (D := D) (x := x) ) (va_cwS 1 hts gX3_isStep_X3_aOf rfl rfl rfl (by decide +kernel) ⟨Nat.le_of_ble_eq_true rfl, Nat.le_of_ble_eq_true rfl⟩) ⟨k_blind, fun U hU hW => ⟨rfl, k_pre hU hW hPc hKc hDc⟩⟩ rfl rfl hl.1 rfl (lv_room (Nat.le_of_ble_eq_true rfl)) dX3_isStep_65 ⟨by decide, by decide⟩) hS (fun q _ h => hFc q h) hFc (fun r6 u t H1 locs ht hvm hw hB hz1 hk1 hS => ?_)
          refine W.widen (k := 0) (n := 0) (Nat.le_refl _) (Nat.le_refl _) ?_
          obtain ⟨rfl, rfl⟩ := hw
          obtain ⟨hP1, hK1, hD1⟩ := hB
          rw [ht] at hP1
          have hK1 := va_K.moved hvm.symm hK1
          obtain ⟨hP, hD⟩ := va_join (wr := []) (w1 := []) hP hD [] [] rfl rfl (by decide) (by decide) hk1 hFc hP1 hD1
          generalize H1 = H at hP hS ⊢
          have hP : va_P D vwCl [] H := hP
          have hD : va_D A [] := hD
          refine lv_bipush (v := 24) hx hb dX3_isStep_68 (by decide) ?_
          refine lv_icmp_ge (tgt := 77) hx hb dX3_isStep_70 (by decide) (fun c7 => ?_) (fun c7 => ?_)
          · skip
            have c7 := k_le c7
            have hl24 : (24 : Int32).toInt = 24 := by decide
            refine lv_iconst (v := 0) hx hb dX3_isStep_77 (by decide) ?_
            have hP := hP.sub (ws' := []) [] rfl
            have hD := hD.sub (ws' := []) [] (by decide) rfl
            have hK := hK.sub (tys' := []) [] rfl
            refine W.widen (k := 0) (n := 0) (by decide) (by decide) ?_
            exact W.zret (v := 0) hx hb hr (by decide) (fun t ht hW => ⟨⟨0, ([], []), rfl, Or.inr (⟨rfl, rfl, (by unfold kv; split <;> omega)⟩), ⟨by rw [ht]; exact hP, va_K.moved hW.alike hK, hD⟩⟩, hS.F ht⟩) hS.2.2 dX3_isStep_78
          · skip
            have c7 := k_nle c7
            have hl24 : (24 : Int32).toInt = 24 := by decide
            refine lv_iconst (v := 1) hx hb dX3_isStep_73 (by decide) ?_
            refine lv_goto (tgt := 78) hx hb dX3_isStep_74 (by decide) ?_
            have hP := hP.sub (ws' := []) [] rfl
            have hD := hD.sub (ws' := []) [] (by decide) rfl
            have hK := hK.sub (tys' := []) [] rfl
            refine W.widen (k := 0) (n := 0) (by decide) (by decide) ?_
            exact W.zret (v := 1) hx hb hr (by decide) (fun t ht hW => ⟨⟨1, ([], []), rfl, Or.inl ⟨rfl, rfl, (by unfold kv; split <;> omega)⟩, ⟨by rw [ht]; exact hP, va_K.moved hW.alike hK, hD⟩⟩, hS.F ht⟩) hS.2.2 dX3_isStep_78
        · skip
          refine lv_tableIn (off := 90) (tgt := 109) hx hb dX3_isStep_19 (by omega) (by omega) (by rw [hs5]; rfl) (by decide) ?_
          refine lv_iconst (v := 1) hx hb dX3_isStep_109 (by decide) ?_
          have hP := hP.sub (ws' := []) [] rfl
          have hD := hD.sub (ws' := []) [] (by decide) rfl
          have hK := hK.sub (tys' := []) [] rfl
          refine W.widen (k := 0) (n := 0) (by decide) (by decide) ?_
          exact W.zret (v := 1) hx hb hr (by decide) (fun t ht hW => ⟨⟨1, ([], []), rfl, Or.inl ⟨rfl, rfl, (by unfold kv; split <;> omega)⟩, ⟨by rw [ht]; exact hP, va_K.moved hW.alike hK, hD⟩⟩, hS.F ht⟩) hS.2.2 dX3_isStep_110
        · skip
          refine lv_tableIn (off := 90) (tgt := 109) hx hb dX3_isStep_19 (by omega) (by omega) (by rw [hs5]; rfl) (by decide) ?_
          refine lv_iconst (v := 1) hx hb dX3_isStep_109 (by decide) ?_
          have hP := hP.sub (ws' := []) [] rfl
          have hD := hD.sub (ws' := []) [] (by decide) rfl
          have hK := hK.sub (tys' := []) [] rfl
          refine W.widen (k := 0) (n := 0) (by decide) (by decide) ?_
          exact W.zret (v := 1) hx hb hr (by decide) (fun t ht hW => ⟨⟨1, ([], []), rfl, Or.inl ⟨rfl, rfl, (by unfold kv; split <;> omega)⟩, ⟨by rw [ht]; exact hP, va_K.moved hW.alike hK, hD⟩⟩, hS.F ht⟩) hS.2.2 dX3_isStep_110
        · skip
          refine lv_tableIn (off := 45) (tgt := 64) hx hb dX3_isStep_19 (by omega) (by omega) (by rw [hs5]; rfl) (by decide) ?_
          refine lv_iload_n hx hb dX3_isStep_64 rfl (lv_at hl 0 rfl) ?_
          have hPc := hP.sub (ws' := []) [] rfl
          have hDc := hD.sub (ws' := []) [] (by decide) rfl
          have hKc := hK.sub (tys' := []) [] rfl
          have hFc := va_free (wc := []) hD hS hA [] rfl
          refine va_calli (va_runS (As := [.int x]) (rest := []) ⟨hx, hb, hml, hown, hts⟩ (c_X3_aOf (l := l) (D := D) (x := x) ) (va_cwS 1 hts gX3_isStep_X3_aOf rfl rfl rfl (by decide +kernel) ⟨Nat.le_of_ble_eq_true rfl, Nat.le_of_ble_eq_true rfl⟩) ⟨k_blind, fun U hU hW => ⟨rfl, k_pre hU hW hPc hKc hDc⟩⟩ rfl rfl hl.1 rfl (lv_room (Nat.le_of_ble_eq_true rfl)) dX3_isStep_65 ⟨by decide, by decide⟩) hS (fun q _ h => hFc q h) hFc (fun r8 u t H1 locs ht hvm hw hB hz1 hk1 hS => ?_)
          refine W.widen (k := 0) (n := 0) (Nat.le_refl _) (Nat.le_refl _) ?_
          obtain ⟨rfl, rfl⟩ := hw
          obtain ⟨hP1, hK1, hD1⟩ := hB
          rw [ht] at hP1
          have hK1 := va_K.moved hvm.symm hK1
          obtain ⟨hP, hD⟩ := va_join (wr := []) (w1 := []) hP hD [] [] rfl rfl (by decide) (by decide) hk1 hFc hP1 hD1
          generalize H1 = H at hP hS ⊢
          have hP : va_P D vwCl [] H := hP
          have hD : va_D A [] := hD
          refine lv_bipush (v := 24) hx hb dX3_isStep_68 (by decide) ?_
          refine lv_icmp_ge (tgt := 77) hx hb dX3_isStep_70 (by decide) (fun c9 => ?_) (fun c9 => ?_)
          · skip
            have c9 := k_le c9
            have hl24 : (24 : Int32).toInt = 24 := by decide
            refine lv_iconst (v := 0) hx hb dX3_isStep_77 (by decide) ?_
            have hP := hP.sub (ws' := []) [] rfl
            have hD := hD.sub (ws' := []) [] (by decide) rfl
            have hK := hK.sub (tys' := []) [] rfl
            refine W.widen (k := 0) (n := 0) (by decide) (by decide) ?_
            exact W.zret (v := 0) hx hb hr (by decide) (fun t ht hW => ⟨⟨0, ([], []), rfl, Or.inr (⟨rfl, rfl, (by unfold kv; split <;> omega)⟩), ⟨by rw [ht]; exact hP, va_K.moved hW.alike hK, hD⟩⟩, hS.F ht⟩) hS.2.2 dX3_isStep_78
          · skip
            have c9 := k_nle c9
            have hl24 : (24 : Int32).toInt = 24 := by decide
            refine lv_iconst (v := 1) hx hb dX3_isStep_73 (by decide) ?_
            refine lv_goto (tgt := 78) hx hb dX3_isStep_74 (by decide) ?_
            have hP := hP.sub (ws' := []) [] rfl
            have hD := hD.sub (ws' := []) [] (by decide) rfl
            have hK := hK.sub (tys' := []) [] rfl
            refine W.widen (k := 0) (n := 0) (by decide) (by decide) ?_
            exact W.zret (v := 1) hx hb hr (by decide) (fun t ht hW => ⟨⟨1, ([], []), rfl, Or.inl ⟨rfl, rfl, (by unfold kv; split <;> omega)⟩, ⟨by rw [ht]; exact hP, va_K.moved hW.alike hK, hD⟩⟩, hS.F ht⟩) hS.2.2 dX3_isStep_78
        · skip
          refine lv_tableIn (off := 45) (tgt := 64) hx hb dX3_isStep_19 (by omega) (by omega) (by rw [hs5]; rfl) (by decide) ?_
          refine lv_iload_n hx hb dX3_isStep_64 rfl (lv_at hl 0 rfl) ?_
          have hPc := hP.sub (ws' := []) [] rfl
          have hDc := hD.sub (ws' := []) [] (by decide) rfl
          have hKc := hK.sub (tys' := []) [] rfl
          have hFc := va_free (wc := []) hD hS hA [] rfl
          refine va_calli (va_runS (As := [.int x]) (rest := []) ⟨hx, hb, hml, hown, hts⟩ (c_X3_aOf (l := l) (D := D) (x := x) ) (va_cwS 1 hts gX3_isStep_X3_aOf rfl rfl rfl (by decide +kernel) ⟨Nat.le_of_ble_eq_true rfl, Nat.le_of_ble_eq_true rfl⟩) ⟨k_blind, fun U hU hW => ⟨rfl, k_pre hU hW hPc hKc hDc⟩⟩ rfl rfl hl.1 rfl (lv_room (Nat.le_of_ble_eq_true rfl)) dX3_isStep_65 ⟨by decide, by decide⟩) hS (fun q _ h => hFc q h) hFc (fun r10 u t H1 locs ht hvm hw hB hz1 hk1 hS => ?_)
          refine W.widen (k := 0) (n := 0) (Nat.le_refl _) (Nat.le_refl _) ?_
          obtain ⟨rfl, rfl⟩ := hw
          obtain ⟨hP1, hK1, hD1⟩ := hB
          rw [ht] at hP1
          have hK1 := va_K.moved hvm.symm hK1
          obtain ⟨hP, hD⟩ := va_join (wr := []) (w1 := []) hP hD [] [] rfl rfl (by decide) (by decide) hk1 hFc hP1 hD1
          generalize H1 = H at hP hS ⊢
          have hP : va_P D vwCl [] H := hP
          have hD : va_D A [] := hD
          refine lv_bipush (v := 24) hx hb dX3_isStep_68 (by decide) ?_
          refine lv_icmp_ge (tgt := 77) hx hb dX3_isStep_70 (by decide) (fun c11 => ?_) (fun c11 => ?_)
          · skip
            have c11 := k_le c11
            have hl24 : (24 : Int32).toInt = 24 := by decide
            refine lv_iconst (v := 0) hx hb dX3_isStep_77 (by decide) ?_
            have hP := hP.sub (ws' := []) [] rfl
            have hD := hD.sub (ws' := []) [] (by decide) rfl
            have hK := hK.sub (tys' := []) [] rfl
            refine W.widen (k := 0) (n := 0) (by decide) (by decide) ?_
            exact W.zret (v := 0) hx hb hr (by decide) (fun t ht hW => ⟨⟨0, ([], []), rfl, Or.inr (⟨rfl, rfl, (by unfold kv; split <;> omega)⟩), ⟨by rw [ht]; exact hP, va_K.moved hW.alike hK, hD⟩⟩, hS.F ht⟩) hS.2.2 dX3_isStep_78
          · skip
            have c11 := k_nle c11
            have hl24 : (24 : Int32).toInt = 24 := by decide
            refine lv_iconst (v := 1) hx hb dX3_isStep_73 (by decide) ?_
            refine lv_goto (tgt := 78) hx hb dX3_isStep_74 (by decide) ?_
            have hP := hP.sub (ws' := []) [] rfl
            have hD := hD.sub (ws' := []) [] (by decide) rfl
            have hK := hK.sub (tys' := []) [] rfl
            refine W.widen (k := 0) (n := 0) (by decide) (by decide) ?_
            exact W.zret (v := 1) hx hb hr (by decide) (fun t ht hW => ⟨⟨1, ([], []), rfl, Or.inl ⟨rfl, rfl, (by unfold kv; split <;> omega)⟩, ⟨by rw [ht]; exact hP, va_K.moved hW.alike hK, hD⟩⟩, hS.F ht⟩) hS.2.2 dX3_isStep_78
        · skip
          refine lv_tableIn (off := 90) (tgt := 109) hx hb dX3_isStep_19 (by omega) (by omega) (by rw [hs5]; rfl) (by decide) ?_
          refine lv_iconst (v := 1) hx hb dX3_isStep_109 (by decide) ?_
          have hP := hP.sub (ws' := []) [] rfl
          have hD := hD.sub (ws' := []) [] (by decide) rfl
          have hK := hK.sub (tys' := []) [] rfl
          refine W.widen (k := 0) (n := 0) (by decide) (by decide) ?_
          exact W.zret (v := 1) hx hb hr (by decide) (fun t ht hW => ⟨⟨1, ([], []), rfl, Or.inl ⟨rfl, rfl, (by unfold kv; split <;> omega)⟩, ⟨by rw [ht]; exact hP, va_K.moved hW.alike hK, hD⟩⟩, hS.F ht⟩) hS.2.2 dX3_isStep_110
        · skip
          refine lv_tableIn (off := 60) (tgt := 79) hx hb dX3_isStep_19 (by omega) (by omega) (by rw [hs5]; rfl) (by decide) ?_
          refine lv_iload_n hx hb dX3_isStep_79 rfl (lv_at hl 0 rfl) ?_
          have hPc := hP.sub (ws' := []) [] rfl
          have hDc := hD.sub (ws' := []) [] (by decide) rfl
          have hKc := hK.sub (tys' := []) [] rfl
          have hFc := va_free (wc := []) hD hS hA [] rfl
          refine va_calli (va_runS (As := [.int x]) (rest := []) ⟨hx, hb, hml, hown, hts⟩ (c_X3_aOf (l := l) (D := D) (x := x) ) (va_cwS 1 hts gX3_isStep_X3_aOf rfl rfl rfl (by decide +kernel) ⟨Nat.le_of_ble_eq_true rfl, Nat.le_of_ble_eq_true rfl⟩) ⟨k_blind, fun U hU hW => ⟨rfl, k_pre hU hW hPc hKc hDc⟩⟩ rfl rfl hl.1 rfl (lv_room (Nat.le_of_ble_eq_true rfl)) dX3_isStep_80 ⟨by decide, by decide⟩) hS (fun q _ h => hFc q h) hFc (fun r12 u t H1 locs ht hvm hw hB hz1 hk1 hS => ?_)
          refine W.widen (k := 0) (n := 0) (Nat.le_refl _) (Nat.le_refl _) ?_
          obtain ⟨rfl, rfl⟩ := hw
          obtain ⟨hP1, hK1, hD1⟩ := hB
          rw [ht] at hP1
          have hK1 := va_K.moved hvm.symm hK1
          obtain ⟨hP, hD⟩ := va_join (wr := []) (w1 := []) hP hD [] [] rfl rfl (by decide) (by decide) hk1 hFc hP1 hD1
          generalize H1 = H at hP hS ⊢
          have hP : va_P D vwCl [] H := hP
          have hD : va_D A [] := hD
          refine lv_bipush (v := 8) hx hb dX3_isStep_83 (by decide) ?_
          refine lv_icmp_ge (tgt := 92) hx hb dX3_isStep_85 (by decide) (fun c13 => ?_) (fun c13 => ?_)
          · skip
            have c13 := k_le c13
            have hl8 : (8 : Int32).toInt = 8 := by decide
            refine lv_iconst (v := 0) hx hb dX3_isStep_92 (by decide) ?_
            have hP := hP.sub (ws' := []) [] rfl
            have hD := hD.sub (ws' := []) [] (by decide) rfl
            have hK := hK.sub (tys' := []) [] rfl
            refine W.widen (k := 0) (n := 0) (by decide) (by decide) ?_
            exact W.zret (v := 0) hx hb hr (by decide) (fun t ht hW => ⟨⟨0, ([], []), rfl, Or.inr (⟨rfl, rfl, (by unfold kv; split <;> omega)⟩), ⟨by rw [ht]; exact hP, va_K.moved hW.alike hK, hD⟩⟩, hS.F ht⟩) hS.2.2 dX3_isStep_93
          · skip
            have c13 := k_nle c13
            have hl8 : (8 : Int32).toInt = 8 := by decide
            refine lv_iconst (v := 1) hx hb dX3_isStep_88 (by decide) ?_
            refine lv_goto (tgt := 93) hx hb dX3_isStep_89 (by decide) ?_
            have hP := hP.sub (ws' := []) [] rfl
            have hD := hD.sub (ws' := []) [] (by decide) rfl
            have hK := hK.sub (tys' := []) [] rfl
            refine W.widen (k := 0) (n := 0) (by decide) (by decide) ?_
            exact W.zret (v := 1) hx hb hr (by decide) (fun t ht hW => ⟨⟨1, ([], []), rfl, Or.inl ⟨rfl, rfl, (by unfold kv; split <;> omega)⟩, ⟨by rw [ht]; exact hP, va_K.moved hW.alike hK, hD⟩⟩, hS.F ht⟩) hS.2.2 dX3_isStep_93
        · skip
          refine lv_tableIn (off := 75) (tgt := 94) hx hb dX3_isStep_19 (by omega) (by omega) (by rw [hs5]; rfl) (by decide) ?_
          refine lv_iload_n hx hb dX3_isStep_94 rfl (lv_at hl 0 rfl) ?_
          have hPc := hP.sub (ws' := []) [] rfl
          have hDc := hD.sub (ws' := []) [] (by decide) rfl
          have hKc := hK.sub (tys' := []) [] rfl
          have hFc := va_free (wc := []) hD hS hA [] rfl
          refine va_calli (va_runS (As := [.int x]) (rest := []) ⟨hx, hb, hml, hown, hts⟩ (c_X3_aOf (l := l) (D := D) (x := x) ) (va_cwS 1 hts gX3_isStep_X3_aOf rfl rfl rfl (by decide +kernel) ⟨Nat.le_of_ble_eq_true rfl, Nat.le_of_ble_eq_true rfl⟩) ⟨k_blind, fun U hU hW => ⟨rfl, k_pre hU hW hPc hKc hDc⟩⟩ rfl rfl hl.1 rfl (lv_room (Nat.le_of_ble_eq_true rfl)) dX3_isStep_95 ⟨by decide, by decide⟩) hS (fun q _ h => hFc q h) hFc (fun r14 u t H1 locs ht hvm hw hB hz1 hk1 hS => ?_)
          refine W.widen (k := 0) (n := 0) (Nat.le_refl _) (Nat.le_refl _) ?_
          obtain ⟨rfl, rfl⟩ := hw
          obtain ⟨hP1, hK1, hD1⟩ := hB
          rw [ht] at hP1
          have hK1 := va_K.moved hvm.symm hK1
          obtain ⟨hP, hD⟩ := va_join (wr := []) (w1 := []) hP hD [] [] rfl rfl (by decide) (by decide) hk1 hFc hP1 hD1
          generalize H1 = H at hP hS ⊢
          have hP : va_P D vwCl [] H := hP
          have hD : va_D A [] := hD
          refine lv_bipush (v := 8) hx hb dX3_isStep_98 (by decide) ?_
          refine lv_icmp_ge (tgt := 107) hx hb dX3_isStep_100 (by decide) (fun c15 => ?_) (fun c15 => ?_)
          · skip
            have c15 := k_le c15
            have hl8 : (8 : Int32).toInt = 8 := by decide
            refine lv_iconst (v := 0) hx hb dX3_isStep_107 (by decide) ?_
            have hP := hP.sub (ws' := []) [] rfl
            have hD := hD.sub (ws' := []) [] (by decide) rfl
            have hK := hK.sub (tys' := []) [] rfl
            refine W.widen (k := 0) (n := 0) (by decide) (by decide) ?_
            exact W.zret (v := 0) hx hb hr (by decide) (fun t ht hW => ⟨⟨0, ([], []), rfl, Or.inr (⟨rfl, rfl, (by unfold kv; split <;> omega)⟩), ⟨by rw [ht]; exact hP, va_K.moved hW.alike hK, hD⟩⟩, hS.F ht⟩) hS.2.2 dX3_isStep_108
          · skip
            have c15 := k_nle c15
            have hl8 : (8 : Int32).toInt = 8 := by decide
            refine lv_iconst (v := 1) hx hb dX3_isStep_103 (by decide) ?_
            refine lv_goto (tgt := 108) hx hb dX3_isStep_104 (by decide) ?_
            have hP := hP.sub (ws' := []) [] rfl
            have hD := hD.sub (ws' := []) [] (by decide) rfl
            have hK := hK.sub (tys' := []) [] rfl
            refine W.widen (k := 0) (n := 0) (by decide) (by decide) ?_
            exact W.zret (v := 1) hx hb hr (by decide) (fun t ht hW => ⟨⟨1, ([], []), rfl, Or.inl ⟨rfl, rfl, (by unfold kv; split <;> omega)⟩, ⟨by rw [ht]; exact hP, va_K.moved hW.alike hK, hD⟩⟩, hS.F ht⟩) hS.2.2 dX3_isStep_108
    · skip
      have c3 := k_nle c3
      have hl8 : (8 : Int32).toInt = 8 := by decide
      refine lv_iconst (v := 0) hx hb dX3_isStep_13 (by decide) ?_
      have hP := hP.sub (ws' := []) [] rfl
      have hD := hD.sub (ws' := []) [] (by decide) rfl
      have hK := hK.sub (tys' := []) [] rfl
      refine W.widen (k := 0) (n := 0) (by decide) (by decide) ?_
      exact W.zret (v := 0) hx hb hr (by decide) (fun t ht hW => ⟨⟨0, ([], []), rfl, Or.inr (⟨rfl, rfl, (by unfold kv; split <;> omega)⟩), ⟨by rw [ht]; exact hP, va_K.moved hW.alike hK, hD⟩⟩, hS.F ht⟩) hS.2.2 dX3_isStep_14
set_option maxRecDepth 100000 in
theorem kw_X1_init__methodLink_RX1_3_objectInit : (.methodLink RX1 3 objectInit : Cond) ∈ wsX1_init := by decide +kernel
set_option maxRecDepth 100000 in
theorem kw_X1_init__instanceMethod_objectInit : (.instanceMethod objectInit : Cond) ∈ wsX1_init := by decide +kernel
set_option maxRecDepth 100000 in
theorem kw_X1_init__code_objectInit_0xb1_1_none : (.code objectInit ⟨#[0xb1]⟩ 1 none : Cond) ∈ wsX1_init := by decide +kernel
set_option maxRecDepth 100000 in
theorem kw_X1_init__arrayClass_int : (.arrayClass .int : Cond) ∈ wsX1_init := by decide +kernel
set_option maxRecDepth 100000 in
theorem kw_X1_init__fieldLink_RX1_11_ActHouse_LogBook_entries_I_ : (.fieldLink RX1 11 "ActHouse$LogBook" "entries" "[I" : Cond) ∈ wsX1_init := by decide +kernel
set_option maxRecDepth 100000 in
theorem kin_X1_init_X1 : ∀ w ∈ u_ws RX1 TX1 3, w ∈ wsX1_init := by decide +kernel
set_option maxHeartbeats 4000000 in
set_option maxRecDepth 100000 in
theorem c_X1_init {l : Launch} {D : va_G} {sz : Nat} {h : Nat} {cI : ClassId}  : Met l yX1_init wsX1_init ({ frames := 1, cells := 1, slots := 256, locals := 12 }) (va_Pc [.ref h] (k_Pre D [(cI, .int)] [(h, .inr (1, [.null, .int 0, .int 0]))] sz)) (va_Qv (fun (u : va_W × List (ClassId × FieldType)) => (∃ (en : Nat), u = ([(h, .inr (1, [.ref en, .int 0, .int 0])), (en, .inl (cI, 256, .inl (fun _ => 0)))], [(cI, .int)]))) (k_B D (va_A [(h, .inr (1, [.null, .int 0, .int 0]))] sz)) (va_A [(h, .inr (1, [.null, .int 0, .int 0]))] sz)) 1 256 (va_A [(h, .inr (1, [.null, .int 0, .int 0]))] sz) := by
  refine Met.ofW (cc := cX1_init) (maxL := 1) (ret := none) (by decide) rfl ?_
  intro p e s m args below meth c s₁ B hml hv
  obtain ⟨rfl, hsz, hP, hK, hD0⟩ := hv
  have hx := B.exec
  have hb := B.bytes
  have hr := B.returns
  have hts := atoms_spec (ws := wsX1_init) B.pre
  have hown : s.vm.findClass RX1 = some m.cls := findClass_of_methodNamed B.named
  have hlocks := B.notSynchronized
  have hin : meth.name = "<init>" := (name_of_methodNamed B.named B.method).1
  subst hsz
  have hD := hD0.self (sz := s.heap.size)
  generalize hAe : va_A [(h, .inr (1, [.null, .int 0, .int 0]))] s.heap.size = A at hD ⊢
  have hA : ∀ q : Nat, s.heap.size ≤ q → A q := fun q h => by rw [← hAe]; exact Or.inr h
  have hS : va_S A s.heap s.heap [] := va_S.rf
  have hl := lv_entry ([.ref h]) (n := 1) (Nat.le_of_ble_eq_true rfl)
  rw [lg_entry_eq]
  generalize (lg_sl ([.ref h]) ++ List.replicate (1 - (lg_sl ([.ref h])).length) Slot.unset).toArray = ls at hl ⊢
  have hl : lv_has ls 1 [(0, .ref h)] := hl
  refine lv_aload_n hx hb dX1_init_0 rfl (lv_at hl 0 rfl) ?_
  refine W.objInit hx hb hown (hts _ kw_X1_init__methodLink_RX1_3_objectInit) (hts _ kw_X1_init__instanceMethod_objectInit) (hts _ kw_X1_init__code_objectInit_0xb1_1_none) rfl (by rw [hml]; exact hl.1) rfl dX1_init_1 (Nat.le_of_ble_eq_true rfl) (Nat.le_of_ble_eq_true rfl) ?_
  refine W.eq (g2 := F0 m 4 ls []) rfl ?_
  refine lv_aload_n hx hb dX1_init_4 rfl (lv_at hl 0 rfl) ?_
  refine lv_sipush (v := 256) hx hb dX1_init_5 (by decide) ?_
  refine k_newa (ty := .int) (N' := 256) (a0 := (256, .inl (fun _ => 0))) (atype := .int) hx hb (hts _ kw_X1_init__arrayClass_int) rfl hK 0 rfl (fun _ _ => rfl) hP hD hS hA (fun _ => rfl) (by decide) (by decide) (by decide) (by decide) (by decide) dX1_init_8 (fun q8 H hP hD hS => ?_)
  refine W.widen (k := 1) (n := 256) (by decide) (by decide) ?_
  have hP : va_P D vwCl [(h, .inr (1, [.null, .int 0, .int 0])), (q8, .inl (cI, 256, .inl (fun _ => 0)))] H := hP
  have hD : va_D A [(h, .inr (1, [.null, .int 0, .int 0])), (q8, .inl (cI, 256, .inl (fun _ => 0)))] := hD
  refine va_put (D := D) (ci := 1) (v := .ref q8) (ty := .array .int) (C := RX1) (T := TX1) (N := 3) hx hb hts kin_X1_init_X1 tyX1 tyX1_ok nmX1 hown hK hP hD hS 0 rfl rfl 0 (by decide) (hts _ kw_X1_init__fieldLink_RX1_11_ActHouse_LogBook_entries_I_) (fun _ h9 => h9) rfl (by decide +kernel) rfl rfl (Nat.le_of_ble_eq_true rfl) dX1_init_10 (fun H locs hP hD hS => ?_)
  have hP : va_P D vwCl [(h, .inr (1, [.ref q8, .int 0, .int 0])), (q8, .inl (cI, 256, .inl (fun _ => 0)))] H := hP
  have hD : va_D A [(h, .inr (1, [.ref q8, .int 0, .int 0])), (q8, .inl (cI, 256, .inl (fun _ => 0)))] := hD
  have hP := hP.sub (ws' := [(h, .inr (1, [.ref q8, .int 0, .int 0])), (q8, .inl (cI, 256, .inl (fun _ => 0)))]) [0, 1] rfl
  have hD := hD.sub (ws' := [(h, .inr (1, [.ref q8, .int 0, .int 0])), (q8, .inl (cI, 256, .inl (fun _ => 0)))]) [0, 1] (by decide) rfl
  have hK := hK.sub (tys' := [(cI, .int)]) [0] rfl
  refine W.widen (k := 1) (n := 256) (by decide) (by decide) ?_
  exact W.vret hx hb hr (fun t ht hW => ⟨⟨([(h, .inr (1, [.ref q8, .int 0, .int 0])), (q8, .inl (cI, 256, .inl (fun _ => 0)))], [(cI, .int)]), rfl, ⟨q8, rfl⟩, ⟨by rw [ht]; exact hP, va_K.moved hW.alike hK, hD⟩⟩, hS.F ht⟩) hS.2.2 dX1_init_13
set_option maxRecDepth 100000 in
theorem kw_X2_init__methodLink_RX2_3_objectInit : (.methodLink RX2 3 objectInit : Cond) ∈ wsX2_init := by decide +kernel
set_option maxRecDepth 100000 in
theorem kw_X2_init__instanceMethod_objectInit : (.instanceMethod objectInit : Cond) ∈ wsX2_init := by decide +kernel
set_option maxRecDepth 100000 in
theorem kw_X2_init__code_objectInit_0xb1_1_none : (.code objectInit ⟨#[0xb1]⟩ 1 none : Cond) ∈ wsX2_init := by decide +kernel
set_option maxRecDepth 100000 in
theorem kw_X2_init__arrayClass_long : (.arrayClass .long : Cond) ∈ wsX2_init := by decide +kernel
set_option maxRecDepth 100000 in
theorem kw_X2_init__fieldLink_RX2_9_ActHouse_Waits_direct_J_ : (.fieldLink RX2 9 "ActHouse$Waits" "direct" "[J" : Cond) ∈ wsX2_init := by decide +kernel
set_option maxRecDepth 100000 in
theorem kin_X2_init_X2 : ∀ w ∈ u_ws RX2 TX2 3, w ∈ wsX2_init := by decide +kernel
set_option maxRecDepth 100000 in
theorem kw_X2_init__fieldLink_RX2_15_ActHouse_Waits_reach_J_ : (.fieldLink RX2 15 "ActHouse$Waits" "reach" "[J" : Cond) ∈ wsX2_init := by decide +kernel
set_option maxHeartbeats 4000000 in
set_option maxRecDepth 100000 in
theorem c_X2_init {l : Launch} {D : va_G} {sz : Nat} {h : Nat}  : Met l yX2_init wsX2_init ({ frames := 1, cells := 2, slots := 72, locals := 12 }) (va_Pc [.ref h] (k_Pre D [] [(h, .inr (2, [.null, .null, .int 0]))] sz)) (va_Qv (fun (u : va_W × List (ClassId × FieldType)) => (∃ (dr : Nat) (rc : Nat) (cJ : ClassId), u = ([(h, .inr (2, [.ref dr, .ref rc, .int 0])), (dr, .inl (cJ, 36, .inr (.inl (fun _ => 0)))), (rc, .inl (cJ, 36, .inr (.inl (fun _ => 0))))], [(cJ, .long)]))) (k_B D (va_A [(h, .inr (2, [.null, .null, .int 0]))] sz)) (va_A [(h, .inr (2, [.null, .null, .int 0]))] sz)) 2 72 (va_A [(h, .inr (2, [.null, .null, .int 0]))] sz) := by
  refine Met.ofW (cc := cX2_init) (maxL := 1) (ret := none) (by decide) rfl ?_
  intro p e s m args below meth c s₁ B hml hv
  obtain ⟨rfl, hsz, hP, hK, hD0⟩ := hv
  have hx := B.exec
  have hb := B.bytes
  have hr := B.returns
  have hts := atoms_spec (ws := wsX2_init) B.pre
  have hown : s.vm.findClass RX2 = some m.cls := findClass_of_methodNamed B.named
  have hlocks := B.notSynchronized
  have hin : meth.name = "<init>" := (name_of_methodNamed B.named B.method).1
  subst hsz
  have hD := hD0.self (sz := s.heap.size)
  generalize hAe : va_A [(h, .inr (2, [.null, .null, .int 0]))] s.heap.size = A at hD ⊢
  have hA : ∀ q : Nat, s.heap.size ≤ q → A q := fun q h => by rw [← hAe]; exact Or.inr h
  have hS : va_S A s.heap s.heap [] := va_S.rf
  have hl := lv_entry ([.ref h]) (n := 1) (Nat.le_of_ble_eq_true rfl)
  rw [lg_entry_eq]
  generalize (lg_sl ([.ref h]) ++ List.replicate (1 - (lg_sl ([.ref h])).length) Slot.unset).toArray = ls at hl ⊢
  have hl : lv_has ls 1 [(0, .ref h)] := hl
  refine lv_aload_n hx hb dX2_init_0 rfl (lv_at hl 0 rfl) ?_
  refine W.objInit hx hb hown (hts _ kw_X2_init__methodLink_RX2_3_objectInit) (hts _ kw_X2_init__instanceMethod_objectInit) (hts _ kw_X2_init__code_objectInit_0xb1_1_none) rfl (by rw [hml]; exact hl.1) rfl dX2_init_1 (Nat.le_of_ble_eq_true rfl) (Nat.le_of_ble_eq_true rfl) ?_
  refine W.eq (g2 := F0 m 4 ls []) rfl ?_
  refine lv_aload_n hx hb dX2_init_4 rfl (lv_at hl 0 rfl) ?_
  refine lv_bipush (v := 36) hx hb dX2_init_5 (by decide) ?_
  refine va_newa (ty := .long) (N' := 36) (a0 := (36, .inr (.inl (fun _ => 0)))) (atype := .long) hx hb (hts _ kw_X2_init__arrayClass_long) rfl hK hP hD hS hA (fun _ => rfl) (by decide) (by decide) (by decide) (by decide) (by decide) dX2_init_7 (fun q7 cy7 H hK hP hD hS => ?_)
  have hK : va_K D vwCl [(cy7, .long)] s := hK
  refine W.widen (k := 1) (n := 36) (by decide) (by decide) ?_
  have hP : va_P D vwCl [(h, .inr (2, [.null, .null, .int 0])), (q7, .inl (cy7, 36, .inr (.inl (fun _ => 0))))] H := hP
  have hD : va_D A [(h, .inr (2, [.null, .null, .int 0])), (q7, .inl (cy7, 36, .inr (.inl (fun _ => 0))))] := hD
  refine va_putF (D := D) (ci := 2) (v := .ref q7) (ty := .array .long) (C := RX2) (T := TX2) (N := 3) hx hb hts kin_X2_init_X2 tyX2 tyX2_ok nmX2 hown hK hP hD hS 0 rfl rfl 0 (by decide) (hts _ kw_X2_init__fieldLink_RX2_9_ActHouse_Waits_direct_J_) (fun _ h9 => h9) rfl hin rfl (by decide +kernel) rfl rfl (Nat.le_of_ble_eq_true rfl) dX2_init_9 (fun H locs hP hD hS => ?_)
  have hP : va_P D vwCl [(h, .inr (2, [.ref q7, .null, .int 0])), (q7, .inl (cy7, 36, .inr (.inl (fun _ => 0))))] H := hP
  have hD : va_D A [(h, .inr (2, [.ref q7, .null, .int 0])), (q7, .inl (cy7, 36, .inr (.inl (fun _ => 0))))] := hD
  refine lv_aload_n hx hb dX2_init_12 rfl (lv_at hl 0 rfl) ?_
  refine lv_bipush (v := 36) hx hb dX2_init_13 (by decide) ?_
  refine k_newa (ty := .long) (N' := 36) (a0 := (36, .inr (.inl (fun _ => 0)))) (atype := .long) hx hb (hts _ kw_X2_init__arrayClass_long) rfl hK 0 rfl (fun _ _ => rfl) hP hD hS hA (fun _ => rfl) (by decide) (by decide) (by decide) (by decide) (by decide) dX2_init_15 (fun q15 H hP hD hS => ?_)
  refine W.widen (k := 2) (n := 72) (by decide) (by decide) ?_
  have hP : va_P D vwCl [(h, .inr (2, [.ref q7, .null, .int 0])), (q7, .inl (cy7, 36, .inr (.inl (fun _ => 0)))), (q15, .inl (cy7, 36, .inr (.inl (fun _ => 0))))] H := hP
  have hD : va_D A [(h, .inr (2, [.ref q7, .null, .int 0])), (q7, .inl (cy7, 36, .inr (.inl (fun _ => 0)))), (q15, .inl (cy7, 36, .inr (.inl (fun _ => 0))))] := hD
  refine va_putF (D := D) (ci := 2) (v := .ref q15) (ty := .array .long) (C := RX2) (T := TX2) (N := 3) hx hb hts kin_X2_init_X2 tyX2 tyX2_ok nmX2 hown hK hP hD hS 0 rfl rfl 1 (by decide) (hts _ kw_X2_init__fieldLink_RX2_15_ActHouse_Waits_reach_J_) (fun _ h9 => h9) rfl hin rfl (by decide +kernel) rfl rfl (Nat.le_of_ble_eq_true rfl) dX2_init_17 (fun H locs hP hD hS => ?_)
  have hP : va_P D vwCl [(h, .inr (2, [.ref q7, .ref q15, .int 0])), (q7, .inl (cy7, 36, .inr (.inl (fun _ => 0)))), (q15, .inl (cy7, 36, .inr (.inl (fun _ => 0))))] H := hP
  have hD : va_D A [(h, .inr (2, [.ref q7, .ref q15, .int 0])), (q7, .inl (cy7, 36, .inr (.inl (fun _ => 0)))), (q15, .inl (cy7, 36, .inr (.inl (fun _ => 0))))] := hD
  have hP := hP.sub (ws' := [(h, .inr (2, [.ref q7, .ref q15, .int 0])), (q7, .inl (cy7, 36, .inr (.inl (fun _ => 0)))), (q15, .inl (cy7, 36, .inr (.inl (fun _ => 0))))]) [0, 1, 2] rfl
  have hD := hD.sub (ws' := [(h, .inr (2, [.ref q7, .ref q15, .int 0])), (q7, .inl (cy7, 36, .inr (.inl (fun _ => 0)))), (q15, .inl (cy7, 36, .inr (.inl (fun _ => 0))))]) [0, 1, 2] (by decide) rfl
  have hK := hK.sub (tys' := [(cy7, .long)]) [0] rfl
  refine W.widen (k := 2) (n := 72) (by decide) (by decide) ?_
  exact W.vret hx hb hr (fun t ht hW => ⟨⟨([(h, .inr (2, [.ref q7, .ref q15, .int 0])), (q7, .inl (cy7, 36, .inr (.inl (fun _ => 0)))), (q15, .inl (cy7, 36, .inr (.inl (fun _ => 0))))], [(cy7, .long)]), rfl, ⟨q7, q15, cy7, rfl⟩, ⟨by rw [ht]; exact hP, va_K.moved hW.alike hK, hD⟩⟩, hS.F ht⟩) hS.2.2 dX2_init_20
set_option maxRecDepth 100000 in
theorem kw_X3_init__methodLink_RX3_3_objectInit : (.methodLink RX3 3 objectInit : Cond) ∈ wsX3_init := by decide +kernel
set_option maxRecDepth 100000 in
theorem kw_X3_init__instanceMethod_objectInit : (.instanceMethod objectInit : Cond) ∈ wsX3_init := by decide +kernel
set_option maxRecDepth 100000 in
theorem kw_X3_init__code_objectInit_0xb1_1_none : (.code objectInit ⟨#[0xb1]⟩ 1 none : Cond) ∈ wsX3_init := by decide +kernel
set_option maxRecDepth 100000 in
theorem kw_X3_init__arrayClass_int : (.arrayClass .int : Cond) ∈ wsX3_init := by decide +kernel
set_option maxRecDepth 100000 in
theorem kw_X3_init__fieldLink_RX3_9_ActHouse_programSteps_I_ : (.fieldLink RX3 9 "ActHouse" "programSteps" "[I" : Cond) ∈ wsX3_init := by decide +kernel
set_option maxRecDepth 100000 in
theorem kin_X3_init_X3 : ∀ w ∈ u_ws RX3 TX3 18, w ∈ wsX3_init := by decide +kernel
set_option maxRecDepth 100000 in
theorem kw_X3_init__fieldLink_RX3_13_ActHouse_programLengths_I_ : (.fieldLink RX3 13 "ActHouse" "programLengths" "[I" : Cond) ∈ wsX3_init := by decide +kernel
set_option maxRecDepth 100000 in
theorem kw_X3_init__fieldLink_RX3_16_ActHouse_limits_I_ : (.fieldLink RX3 16 "ActHouse" "limits" "[I" : Cond) ∈ wsX3_init := by decide +kernel
set_option maxRecDepth 100000 in
theorem kw_X3_init__fieldLink_RX3_19_ActHouse_floors_I_ : (.fieldLink RX3 19 "ActHouse" "floors" "[I" : Cond) ∈ wsX3_init := by decide +kernel
set_option maxRecDepth 100000 in
theorem kw_X3_init__fieldLink_RX3_22_ActHouse_values_I_ : (.fieldLink RX3 22 "ActHouse" "values" "[I" : Cond) ∈ wsX3_init := by decide +kernel
set_option maxRecDepth 100000 in
theorem kw_X3_init__classLink_RX3_25_RX0 : (.classLink RX3 25 RX0 : Cond) ∈ wsX3_init := by decide +kernel
set_option maxRecDepth 100000 in
theorem kw_X3_init__fieldLink_RX3_27_ActHouse_acts_LActHouse_Act_ : (.fieldLink RX3 27 "ActHouse" "acts" "[LActHouse$Act;" : Cond) ∈ wsX3_init := by decide +kernel
set_option maxRecDepth 100000 in
theorem kw_X3_init__fieldLink_RX3_31_ActHouse_order_I_ : (.fieldLink RX3 31 "ActHouse" "order" "[I" : Cond) ∈ wsX3_init := by decide +kernel
set_option maxRecDepth 100000 in
theorem kw_X3_init__fieldLink_RX3_34_ActHouse_doneRow_I_ : (.fieldLink RX3 34 "ActHouse" "doneRow" "[I" : Cond) ∈ wsX3_init := by decide +kernel
set_option maxRecDepth 100000 in
theorem kw_X3_init__fieldLink_RX3_37_ActHouse_running_I_ : (.fieldLink RX3 37 "ActHouse" "running" "[I" : Cond) ∈ wsX3_init := by decide +kernel
set_option maxRecDepth 100000 in
theorem kw_X3_init__fieldLink_RX3_40_ActHouse_begunOfClass_I_ : (.fieldLink RX3 40 "ActHouse" "begunOfClass" "[I" : Cond) ∈ wsX3_init := by decide +kernel
set_option maxRecDepth 100000 in
theorem kin_X3_init_X1 : ∀ w ∈ u_ws RX1 TX1 3, w ∈ wsX3_init := by decide +kernel
set_option maxRecDepth 100000 in
theorem kw_X3_init__classLink_RX3_43_RX1 : (.classLink RX3 43 RX1 : Cond) ∈ wsX3_init := by decide +kernel
set_option maxRecDepth 100000 in
theorem kw_X3_init__instantiable_RX1_3 : (.instantiable RX1 3 : Cond) ∈ wsX3_init := by decide +kernel
set_option maxRecDepth 100000 in
theorem kw_X3_init__initialized_RX1 : (.initialized RX1 : Cond) ∈ wsX3_init := by decide +kernel
set_option maxRecDepth 100000 in
theorem kw_X3_init__instanceMethod_yX1_init : (.instanceMethod yX1_init : Cond) ∈ wsX3_init := by decide +kernel
set_option maxRecDepth 100000 in
theorem kw_X3_init__fieldLink_RX3_46_ActHouse_book_LActHouse_LogBook_ : (.fieldLink RX3 46 "ActHouse" "book" "LActHouse$LogBook;" : Cond) ∈ wsX3_init := by decide +kernel
set_option maxRecDepth 100000 in
theorem kin_X3_init_X2 : ∀ w ∈ u_ws RX2 TX2 3, w ∈ wsX3_init := by decide +kernel
set_option maxRecDepth 100000 in
theorem kw_X3_init__classLink_RX3_50_RX2 : (.classLink RX3 50 RX2 : Cond) ∈ wsX3_init := by decide +kernel
set_option maxRecDepth 100000 in
theorem kw_X3_init__instantiable_RX2_3 : (.instantiable RX2 3 : Cond) ∈ wsX3_init := by decide +kernel
set_option maxRecDepth 100000 in
theorem kw_X3_init__initialized_RX2 : (.initialized RX2 : Cond) ∈ wsX3_init := by decide +kernel
set_option maxRecDepth 100000 in
theorem kw_X3_init__instanceMethod_yX2_init : (.instanceMethod yX2_init : Cond) ∈ wsX3_init := by decide +kernel
set_option maxRecDepth 100000 in
theorem kw_X3_init__fieldLink_RX3_53_ActHouse_waits_LActHouse_Waits_ : (.fieldLink RX3 53 "ActHouse" "waits" "LActHouse$Waits;" : Cond) ∈ wsX3_init := by decide +kernel
set_option maxHeartbeats 4000000 in
set_option maxRecDepth 100000 in
theorem c_X3_init {l : Launch} {D : va_G} {sz : Nat} {h : Nat}  : Met l yX3_init wsX3_init ({ frames := 2, cells := 15, slots := 762, locals := 32 }) (va_Pc [.ref h] (k_PreO D [] [(h, .inr (3, [.null, .null, .null, .null, .null, .null, .null, .null, .null, .null, .null, .null, .int 0, .int 0, .int 0, .int 0, .int 0, .int 0]))] sz)) (va_Qv (fun (u : va_W × List (ClassId × FieldType)) => (∃ (xprogramSteps : Nat) (xprogramLengths : Nat) (xlimits : Nat) (xfloors : Nat) (xvalues : Nat) (xacts : Nat) (xorder : Nat) (xdoneRow : Nat) (xrunning : Nat) (xbegunOfClass : Nat) (xbook : Nat) (xwaits : Nat) (en : Nat) (dr : Nat) (rc : Nat) (fl : Nat → Int32) (cI : ClassId) (cO : ClassId) (cJ : ClassId), u = ([(h, .inr (3, [.ref xprogramSteps, .ref xprogramLengths, .ref xlimits, .ref xfloors, .ref xvalues, .ref xacts, .ref xorder, .ref xdoneRow, .ref xrunning, .ref xbegunOfClass, .ref xbook, .ref xwaits, .int 0, .int 0, .int 0, .int 0, .int 0, .int 0])), (xprogramSteps, .inl (cI, 96, .inl (fun _ => 0))), (xprogramLengths, .inl (cI, 8, .inl (fun _ => 0))), (xlimits, .inl (cI, 4, .inl fl)), (xfloors, .inl (cI, 8, .inl (fun _ => 0))), (xvalues, .inl (cI, 32, .inl (fun _ => 0))), (xacts, .inl (cO, 80, .inr (.inr (.inr (.inr (fun _ => none)))))), (xorder, .inl (cI, 80, .inl (fun _ => 0))), (xdoneRow, .inl (cI, 80, .inl (fun _ => 0))), (xrunning, .inl (cI, 36, .inl (fun _ => 0))), (xbegunOfClass, .inl (cI, 4, .inl (fun _ => 0))), (xbook, .inr (1, [.ref en, .int 0, .int 0])), (en, .inl (cI, 256, .inl (fun _ => 0))), (xwaits, .inr (2, [.ref dr, .ref rc, .int 0])), (dr, .inl (cJ, 36, .inr (.inl (fun _ => 0)))), (rc, .inl (cJ, 36, .inr (.inl (fun _ => 0))))], [(cI, .int), (cO, .object RX0), (cJ, .long)]))) (k_B D (va_A [(h, .inr (3, [.null, .null, .null, .null, .null, .null, .null, .null, .null, .null, .null, .null, .int 0, .int 0, .int 0, .int 0, .int 0, .int 0]))] sz)) (va_A [(h, .inr (3, [.null, .null, .null, .null, .null, .null, .null, .null, .null, .null, .null, .null, .int 0, .int 0, .int 0, .int 0, .int 0, .int 0]))] sz)) 15 762 (va_A [(h, .inr (3, [.null, .null, .null, .null, .null, .null, .null, .null, .null, .null, .null, .null, .int 0, .int 0, .int 0, .int 0, .int 0, .int 0]))] sz) := by
  refine Met.ofW (cc := cX3_init) (maxL := 1) (ret := none) (by decide) rfl ?_
  intro p e s m args below meth c s₁ B hml hv
  obtain ⟨rfl, ⟨hsz, hP, hK, hD0⟩, hAO, hN45, hN52⟩ := hv
  have hx := B.exec
  have hb := B.bytes
  have hr := B.returns
  have hts := atoms_spec (ws := wsX3_init) B.pre
  have hown : s.vm.findClass RX3 = some m.cls := findClass_of_methodNamed B.named
  have hlocks := B.notSynchronized
  have hin : meth.name = "<init>" := (name_of_methodNamed B.named B.method).1
  subst hsz
  have hD := hD0.self (sz := s.heap.size)
  generalize hAe : va_A [(h, .inr (3, [.null, .null, .null, .null, .null, .null, .null, .null, .null, .null, .null, .null, .int 0, .int 0, .int 0, .int 0, .int 0, .int 0]))] s.heap.size = A at hD ⊢
  have hA : ∀ q : Nat, s.heap.size ≤ q → A q := fun q h => by rw [← hAe]; exact Or.inr h
  have hS : va_S A s.heap s.heap [] := va_S.rf
  have hl := lv_entry ([.ref h]) (n := 1) (Nat.le_of_ble_eq_true rfl)
  rw [lg_entry_eq]
  generalize (lg_sl ([.ref h]) ++ List.replicate (1 - (lg_sl ([.ref h])).length) Slot.unset).toArray = ls at hl ⊢
  have hl : lv_has ls 1 [(0, .ref h)] := hl
  refine lv_aload_n hx hb dX3_init_0 rfl (lv_at hl 0 rfl) ?_
  refine W.objInit hx hb hown (hts _ kw_X3_init__methodLink_RX3_3_objectInit) (hts _ kw_X3_init__instanceMethod_objectInit) (hts _ kw_X3_init__code_objectInit_0xb1_1_none) rfl (by rw [hml]; exact hl.1) rfl dX3_init_1 (Nat.le_of_ble_eq_true rfl) (Nat.le_of_ble_eq_true rfl) ?_
  refine W.eq (g2 := F0 m 4 ls []) rfl ?_
  refine lv_aload_n hx hb dX3_init_4 rfl (lv_at hl 0 rfl) ?_
  refine lv_bipush (v := 96) hx hb dX3_init_5 (by decide) ?_
  refine va_newa (ty := .int) (N' := 96) (a0 := (96, .inl (fun _ => 0))) (atype := .int) hx hb (hts _ kw_X3_init__arrayClass_int) rfl hK hP hD hS hA (fun _ => rfl) (by decide) (by decide) (by decide) (by decide) (by decide) dX3_init_7 (fun q7 cy7 H hK hP hD hS => ?_)
  have hK : va_K D vwCl [(cy7, .int)] s := hK
  refine W.widen (k := 1) (n := 96) (by decide) (by decide) ?_
  have hP : va_P D vwCl [(h, .inr (3, [.null, .null, .null, .null, .null, .null, .null, .null, .null, .null, .null, .null, .int 0, .int 0, .int 0, .int 0, .int 0, .int 0])), (q7, .inl (cy7, 96, .inl (fun _ => 0)))] H := hP
  have hD : va_D A [(h, .inr (3, [.null, .null, .null, .null, .null, .null, .null, .null, .null, .null, .null, .null, .int 0, .int 0, .int 0, .int 0, .int 0, .int 0])), (q7, .inl (cy7, 96, .inl (fun _ => 0)))] := hD
  refine va_putF (D := D) (ci := 3) (v := .ref q7) (ty := .array .int) (C := RX3) (T := TX3) (N := 18) hx hb hts kin_X3_init_X3 tyX3 tyX3_ok nmX3 hown hK hP hD hS 0 rfl rfl 0 (by decide) (hts _ kw_X3_init__fieldLink_RX3_9_ActHouse_programSteps_I_) (fun _ h9 => h9) rfl hin rfl (by decide +kernel) rfl rfl (Nat.le_of_ble_eq_true rfl) dX3_init_9 (fun H locs hP hD hS => ?_)
  have hP : va_P D vwCl [(h, .inr (3, [.ref q7, .null, .null, .null, .null, .null, .null, .null, .null, .null, .null, .null, .int 0, .int 0, .int 0, .int 0, .int 0, .int 0])), (q7, .inl (cy7, 96, .inl (fun _ => 0)))] H := hP
  have hD : va_D A [(h, .inr (3, [.ref q7, .null, .null, .null, .null, .null, .null, .null, .null, .null, .null, .null, .int 0, .int 0, .int 0, .int 0, .int 0, .int 0])), (q7, .inl (cy7, 96, .inl (fun _ => 0)))] := hD
  refine lv_aload_n hx hb dX3_init_12 rfl (lv_at hl 0 rfl) ?_
  refine lv_bipush (v := 8) hx hb dX3_init_13 (by decide) ?_
  refine k_newa (ty := .int) (N' := 8) (a0 := (8, .inl (fun _ => 0))) (atype := .int) hx hb (hts _ kw_X3_init__arrayClass_int) rfl hK 0 rfl (fun _ _ => rfl) hP hD hS hA (fun _ => rfl) (by decide) (by decide) (by decide) (by decide) (by decide) dX3_init_15 (fun q15 H hP hD hS => ?_)
  refine W.widen (k := 2) (n := 104) (by decide) (by decide) ?_
  have hP : va_P D vwCl [(h, .inr (3, [.ref q7, .null, .null, .null, .null, .null, .null, .null, .null, .null, .null, .null, .int 0, .int 0, .int 0, .int 0, .int 0, .int 0])), (q7, .inl (cy7, 96, .inl (fun _ => 0))), (q15, .inl (cy7, 8, .inl (fun _ => 0)))] H := hP
  have hD : va_D A [(h, .inr (3, [.ref q7, .null, .null, .null, .null, .null, .null, .null, .null, .null, .null, .null, .int 0, .int 0, .int 0, .int 0, .int 0, .int 0])), (q7, .inl (cy7, 96, .inl (fun _ => 0))), (q15, .inl (cy7, 8, .inl (fun _ => 0)))] := hD
  refine va_putF (D := D) (ci := 3) (v := .ref q15) (ty := .array .int) (C := RX3) (T := TX3) (N := 18) hx hb hts kin_X3_init_X3 tyX3 tyX3_ok nmX3 hown hK hP hD hS 0 rfl rfl 1 (by decide) (hts _ kw_X3_init__fieldLink_RX3_13_ActHouse_programLengths_I_) (fun _ h9 => h9) rfl hin rfl (by decide +kernel) rfl rfl (Nat.le_of_ble_eq_true rfl) dX3_init_17 (fun H locs hP hD hS => ?_)
  have hP : va_P D vwCl [(h, .inr (3, [.ref q7, .ref q15, .null, .null, .null, .null, .null, .null, .null, .null, .null, .null, .int 0, .int 0, .int 0, .int 0, .int 0, .int 0])), (q7, .inl (cy7, 96, .inl (fun _ => 0))), (q15, .inl (cy7, 8, .inl (fun _ => 0)))] H := hP
  have hD : va_D A [(h, .inr (3, [.ref q7, .ref q15, .null, .null, .null, .null, .null, .null, .null, .null, .null, .null, .int 0, .int 0, .int 0, .int 0, .int 0, .int 0])), (q7, .inl (cy7, 96, .inl (fun _ => 0))), (q15, .inl (cy7, 8, .inl (fun _ => 0)))] := hD
  refine lv_aload_n hx hb dX3_init_20 rfl (lv_at hl 0 rfl) ?_
  refine lv_iconst (v := 4) hx hb dX3_init_21 (by decide) ?_
  refine k_newa (ty := .int) (N' := 4) (a0 := (4, .inl (fun _ => 0))) (atype := .int) hx hb (hts _ kw_X3_init__arrayClass_int) rfl hK 0 rfl (fun _ _ => rfl) hP hD hS hA (fun _ => rfl) (by decide) (by decide) (by decide) (by decide) (by decide) dX3_init_22 (fun q22 H hP hD hS => ?_)
  refine W.widen (k := 3) (n := 108) (by decide) (by decide) ?_
  have hP : va_P D vwCl [(h, .inr (3, [.ref q7, .ref q15, .null, .null, .null, .null, .null, .null, .null, .null, .null, .null, .int 0, .int 0, .int 0, .int 0, .int 0, .int 0])), (q7, .inl (cy7, 96, .inl (fun _ => 0))), (q15, .inl (cy7, 8, .inl (fun _ => 0))), (q22, .inl (cy7, 4, .inl (fun _ => 0)))] H := hP
  have hD : va_D A [(h, .inr (3, [.ref q7, .ref q15, .null, .null, .null, .null, .null, .null, .null, .null, .null, .null, .int 0, .int 0, .int 0, .int 0, .int 0, .int 0])), (q7, .inl (cy7, 96, .inl (fun _ => 0))), (q15, .inl (cy7, 8, .inl (fun _ => 0))), (q22, .inl (cy7, 4, .inl (fun _ => 0)))] := hD
  refine va_putF (D := D) (ci := 3) (v := .ref q22) (ty := .array .int) (C := RX3) (T := TX3) (N := 18) hx hb hts kin_X3_init_X3 tyX3 tyX3_ok nmX3 hown hK hP hD hS 0 rfl rfl 2 (by decide) (hts _ kw_X3_init__fieldLink_RX3_16_ActHouse_limits_I_) (fun _ h9 => h9) rfl hin rfl (by decide +kernel) rfl rfl (Nat.le_of_ble_eq_true rfl) dX3_init_24 (fun H locs hP hD hS => ?_)
  have hP : va_P D vwCl [(h, .inr (3, [.ref q7, .ref q15, .ref q22, .null, .null, .null, .null, .null, .null, .null, .null, .null, .int 0, .int 0, .int 0, .int 0, .int 0, .int 0])), (q7, .inl (cy7, 96, .inl (fun _ => 0))), (q15, .inl (cy7, 8, .inl (fun _ => 0))), (q22, .inl (cy7, 4, .inl (fun _ => 0)))] H := hP
  have hD : va_D A [(h, .inr (3, [.ref q7, .ref q15, .ref q22, .null, .null, .null, .null, .null, .null, .null, .null, .null, .int 0, .int 0, .int 0, .int 0, .int 0, .int 0])), (q7, .inl (cy7, 96, .inl (fun _ => 0))), (q15, .inl (cy7, 8, .inl (fun _ => 0))), (q22, .inl (cy7, 4, .inl (fun _ => 0)))] := hD
  refine lv_aload_n hx hb dX3_init_27 rfl (lv_at hl 0 rfl) ?_
  refine lv_bipush (v := 8) hx hb dX3_init_28 (by decide) ?_
  refine k_newa (ty := .int) (N' := 8) (a0 := (8, .inl (fun _ => 0))) (atype := .int) hx hb (hts _ kw_X3_init__arrayClass_int) rfl hK 0 rfl (fun _ _ => rfl) hP hD hS hA (fun _ => rfl) (by decide) (by decide) (by decide) (by decide) (by decide) dX3_init_30 (fun q30 H hP hD hS => ?_)
  refine W.widen (k := 4) (n := 116) (by decide) (by decide) ?_
  have hP : va_P D vwCl [(h, .inr (3, [.ref q7, .ref q15, .ref q22, .null, .null, .null, .null, .null, .null, .null, .null, .null, .int 0, .int 0, .int 0, .int 0, .int 0, .int 0])), (q7, .inl (cy7, 96, .inl (fun _ => 0))), (q15, .inl (cy7, 8, .inl (fun _ => 0))), (q22, .inl (cy7, 4, .inl (fun _ => 0))), (q30, .inl (cy7, 8, .inl (fun _ => 0)))] H := hP
  have hD : va_D A [(h, .inr (3, [.ref q7, .ref q15, .ref q22, .null, .null, .null, .null, .null, .null, .null, .null, .null, .int 0, .int 0, .int 0, .int 0, .int 0, .int 0])), (q7, .inl (cy7, 96, .inl (fun _ => 0))), (q15, .inl (cy7, 8, .inl (fun _ => 0))), (q22, .inl (cy7, 4, .inl (fun _ => 0))), (q30, .inl (cy7, 8, .inl (fun _ => 0)))] := hD
  refine va_putF (D := D) (ci := 3) (v := .ref q30) (ty := .array .int) (C := RX3) (T := TX3) (N := 18) hx hb hts kin_X3_init_X3 tyX3 tyX3_ok nmX3 hown hK hP hD hS 0 rfl rfl 3 (by decide) (hts _ kw_X3_init__fieldLink_RX3_19_ActHouse_floors_I_) (fun _ h9 => h9) rfl hin rfl (by decide +kernel) rfl rfl (Nat.le_of_ble_eq_true rfl) dX3_init_32 (fun H locs hP hD hS => ?_)
  have hP : va_P D vwCl [(h, .inr (3, [.ref q7, .ref q15, .ref q22, .ref q30, .null, .null, .null, .null, .null, .null, .null, .null, .int 0, .int 0, .int 0, .int 0, .int 0, .int 0])), (q7, .inl (cy7, 96, .inl (fun _ => 0))), (q15, .inl (cy7, 8, .inl (fun _ => 0))), (q22, .inl (cy7, 4, .inl (fun _ => 0))), (q30, .inl (cy7, 8, .inl (fun _ => 0)))] H := hP
  have hD : va_D A [(h, .inr (3, [.ref q7, .ref q15, .ref q22, .ref q30, .null, .null, .null, .null, .null, .null, .null, .null, .int 0, .int 0, .int 0, .int 0, .int 0, .int 0])), (q7, .inl (cy7, 96, .inl (fun _ => 0))), (q15, .inl (cy7, 8, .inl (fun _ => 0))), (q22, .inl (cy7, 4, .inl (fun _ => 0))), (q30, .inl (cy7, 8, .inl (fun _ => 0)))] := hD
  refine lv_aload_n hx hb dX3_init_35 rfl (lv_at hl 0 rfl) ?_
  refine lv_bipush (v := 32) hx hb dX3_init_36 (by decide) ?_
  refine k_newa (ty := .int) (N' := 32) (a0 := (32, .inl (fun _ => 0))) (atype := .int) hx hb (hts _ kw_X3_init__arrayClass_int) rfl hK 0 rfl (fun _ _ => rfl) hP hD hS hA (fun _ => rfl) (by decide) (by decide) (by decide) (by decide) (by decide) dX3_init_38 (fun q38 H hP hD hS => ?_)
  refine W.widen (k := 5) (n := 148) (by decide) (by decide) ?_
  have hP : va_P D vwCl [(h, .inr (3, [.ref q7, .ref q15, .ref q22, .ref q30, .null, .null, .null, .null, .null, .null, .null, .null, .int 0, .int 0, .int 0, .int 0, .int 0, .int 0])), (q7, .inl (cy7, 96, .inl (fun _ => 0))), (q15, .inl (cy7, 8, .inl (fun _ => 0))), (q22, .inl (cy7, 4, .inl (fun _ => 0))), (q30, .inl (cy7, 8, .inl (fun _ => 0))), (q38, .inl (cy7, 32, .inl (fun _ => 0)))] H := hP
  have hD : va_D A [(h, .inr (3, [.ref q7, .ref q15, .ref q22, .ref q30, .null, .null, .null, .null, .null, .null, .null, .null, .int 0, .int 0, .int 0, .int 0, .int 0, .int 0])), (q7, .inl (cy7, 96, .inl (fun _ => 0))), (q15, .inl (cy7, 8, .inl (fun _ => 0))), (q22, .inl (cy7, 4, .inl (fun _ => 0))), (q30, .inl (cy7, 8, .inl (fun _ => 0))), (q38, .inl (cy7, 32, .inl (fun _ => 0)))] := hD
  refine va_putF (D := D) (ci := 3) (v := .ref q38) (ty := .array .int) (C := RX3) (T := TX3) (N := 18) hx hb hts kin_X3_init_X3 tyX3 tyX3_ok nmX3 hown hK hP hD hS 0 rfl rfl 4 (by decide) (hts _ kw_X3_init__fieldLink_RX3_22_ActHouse_values_I_) (fun _ h9 => h9) rfl hin rfl (by decide +kernel) rfl rfl (Nat.le_of_ble_eq_true rfl) dX3_init_40 (fun H locs hP hD hS => ?_)
  have hP : va_P D vwCl [(h, .inr (3, [.ref q7, .ref q15, .ref q22, .ref q30, .ref q38, .null, .null, .null, .null, .null, .null, .null, .int 0, .int 0, .int 0, .int 0, .int 0, .int 0])), (q7, .inl (cy7, 96, .inl (fun _ => 0))), (q15, .inl (cy7, 8, .inl (fun _ => 0))), (q22, .inl (cy7, 4, .inl (fun _ => 0))), (q30, .inl (cy7, 8, .inl (fun _ => 0))), (q38, .inl (cy7, 32, .inl (fun _ => 0)))] H := hP
  have hD : va_D A [(h, .inr (3, [.ref q7, .ref q15, .ref q22, .ref q30, .ref q38, .null, .null, .null, .null, .null, .null, .null, .int 0, .int 0, .int 0, .int 0, .int 0, .int 0])), (q7, .inl (cy7, 96, .inl (fun _ => 0))), (q15, .inl (cy7, 8, .inl (fun _ => 0))), (q22, .inl (cy7, 4, .inl (fun _ => 0))), (q30, .inl (cy7, 8, .inl (fun _ => 0))), (q38, .inl (cy7, 32, .inl (fun _ => 0)))] := hD
  refine lv_aload_n hx hb dX3_init_43 rfl (lv_at hl 0 rfl) ?_
  refine lv_bipush (v := 80) hx hb dX3_init_44 (by decide) ?_
  refine va_newq (N' := 80) hx hb hown (hts _ kw_X3_init__classLink_RX3_25_RX0) hAO hK hP hD hS hA (by decide) (by decide) (by decide) (by decide) (by decide) dX3_init_46 (fun q46 cy46 H hK hP hD hS => ?_)
  have hK : va_K D vwCl [(cy7, .int), (cy46, .object RX0)] s := hK
  refine W.widen (k := 6) (n := 228) (by decide) (by decide) ?_
  have hP : va_P D vwCl [(h, .inr (3, [.ref q7, .ref q15, .ref q22, .ref q30, .ref q38, .null, .null, .null, .null, .null, .null, .null, .int 0, .int 0, .int 0, .int 0, .int 0, .int 0])), (q7, .inl (cy7, 96, .inl (fun _ => 0))), (q15, .inl (cy7, 8, .inl (fun _ => 0))), (q22, .inl (cy7, 4, .inl (fun _ => 0))), (q30, .inl (cy7, 8, .inl (fun _ => 0))), (q38, .inl (cy7, 32, .inl (fun _ => 0))), (q46, .inl (cy46, 80, .inr (.inr (.inr (.inr (fun _ => none))))))] H := hP
  have hD : va_D A [(h, .inr (3, [.ref q7, .ref q15, .ref q22, .ref q30, .ref q38, .null, .null, .null, .null, .null, .null, .null, .int 0, .int 0, .int 0, .int 0, .int 0, .int 0])), (q7, .inl (cy7, 96, .inl (fun _ => 0))), (q15, .inl (cy7, 8, .inl (fun _ => 0))), (q22, .inl (cy7, 4, .inl (fun _ => 0))), (q30, .inl (cy7, 8, .inl (fun _ => 0))), (q38, .inl (cy7, 32, .inl (fun _ => 0))), (q46, .inl (cy46, 80, .inr (.inr (.inr (.inr (fun _ => none))))))] := hD
  refine va_putF (D := D) (ci := 3) (v := .ref q46) (ty := .array (.object "ActHouse$Act")) (C := RX3) (T := TX3) (N := 18) hx hb hts kin_X3_init_X3 tyX3 tyX3_ok nmX3 hown hK hP hD hS 0 rfl rfl 5 (by decide) (hts _ kw_X3_init__fieldLink_RX3_27_ActHouse_acts_LActHouse_Act_) (fun _ h9 => h9) rfl hin rfl (by decide +kernel) rfl rfl (Nat.le_of_ble_eq_true rfl) dX3_init_49 (fun H locs hP hD hS => ?_)
  have hP : va_P D vwCl [(h, .inr (3, [.ref q7, .ref q15, .ref q22, .ref q30, .ref q38, .ref q46, .null, .null, .null, .null, .null, .null, .int 0, .int 0, .int 0, .int 0, .int 0, .int 0])), (q7, .inl (cy7, 96, .inl (fun _ => 0))), (q15, .inl (cy7, 8, .inl (fun _ => 0))), (q22, .inl (cy7, 4, .inl (fun _ => 0))), (q30, .inl (cy7, 8, .inl (fun _ => 0))), (q38, .inl (cy7, 32, .inl (fun _ => 0))), (q46, .inl (cy46, 80, .inr (.inr (.inr (.inr (fun _ => none))))))] H := hP
  have hD : va_D A [(h, .inr (3, [.ref q7, .ref q15, .ref q22, .ref q30, .ref q38, .ref q46, .null, .null, .null, .null, .null, .null, .int 0, .int 0, .int 0, .int 0, .int 0, .int 0])), (q7, .inl (cy7, 96, .inl (fun _ => 0))), (q15, .inl (cy7, 8, .inl (fun _ => 0))), (q22, .inl (cy7, 4, .inl (fun _ => 0))), (q30, .inl (cy7, 8, .inl (fun _ => 0))), (q38, .inl (cy7, 32, .inl (fun _ => 0))), (q46, .inl (cy46, 80, .inr (.inr (.inr (.inr (fun _ => none))))))] := hD
  refine lv_aload_n hx hb dX3_init_52 rfl (lv_at hl 0 rfl) ?_
  refine lv_bipush (v := 80) hx hb dX3_init_53 (by decide) ?_
  refine k_newa (ty := .int) (N' := 80) (a0 := (80, .inl (fun _ => 0))) (atype := .int) hx hb (hts _ kw_X3_init__arrayClass_int) rfl hK 0 rfl (fun _ _ => rfl) hP hD hS hA (fun _ => rfl) (by decide) (by decide) (by decide) (by decide) (by decide) dX3_init_55 (fun q55 H hP hD hS => ?_)
  refine W.widen (k := 7) (n := 308) (by decide) (by decide) ?_
  have hP : va_P D vwCl [(h, .inr (3, [.ref q7, .ref q15, .ref q22, .ref q30, .ref q38, .ref q46, .null, .null, .null, .null, .null, .null, .int 0, .int 0, .int 0, .int 0, .int 0, .int 0])), (q7, .inl (cy7, 96, .inl (fun _ => 0))), (q15, .inl (cy7, 8, .inl (fun _ => 0))), (q22, .inl (cy7, 4, .inl (fun _ => 0))), (q30, .inl (cy7, 8, .inl (fun _ => 0))), (q38, .inl (cy7, 32, .inl (fun _ => 0))), (q46, .inl (cy46, 80, .inr (.inr (.inr (.inr (fun _ => none)))))), (q55, .inl (cy7, 80, .inl (fun _ => 0)))] H := hP
  have hD : va_D A [(h, .inr (3, [.ref q7, .ref q15, .ref q22, .ref q30, .ref q38, .ref q46, .null, .null, .null, .null, .null, .null, .int 0, .int 0, .int 0, .int 0, .int 0, .int 0])), (q7, .inl (cy7, 96, .inl (fun _ => 0))), (q15, .inl (cy7, 8, .inl (fun _ => 0))), (q22, .inl (cy7, 4, .inl (fun _ => 0))), (q30, .inl (cy7, 8, .inl (fun _ => 0))), (q38, .inl (cy7, 32, .inl (fun _ => 0))), (q46, .inl (cy46, 80, .inr (.inr (.inr (.inr (fun _ => none)))))), (q55, .inl (cy7, 80, .inl (fun _ => 0)))] := hD
  refine va_putF (D := D) (ci := 3) (v := .ref q55) (ty := .array .int) (C := RX3) (T := TX3) (N := 18) hx hb hts kin_X3_init_X3 tyX3 tyX3_ok nmX3 hown hK hP hD hS 0 rfl rfl 6 (by decide) (hts _ kw_X3_init__fieldLink_RX3_31_ActHouse_order_I_) (fun _ h9 => h9) rfl hin rfl (by decide +kernel) rfl rfl (Nat.le_of_ble_eq_true rfl) dX3_init_57 (fun H locs hP hD hS => ?_)
  have hP : va_P D vwCl [(h, .inr (3, [.ref q7, .ref q15, .ref q22, .ref q30, .ref q38, .ref q46, .ref q55, .null, .null, .null, .null, .null, .int 0, .int 0, .int 0, .int 0, .int 0, .int 0])), (q7, .inl (cy7, 96, .inl (fun _ => 0))), (q15, .inl (cy7, 8, .inl (fun _ => 0))), (q22, .inl (cy7, 4, .inl (fun _ => 0))), (q30, .inl (cy7, 8, .inl (fun _ => 0))), (q38, .inl (cy7, 32, .inl (fun _ => 0))), (q46, .inl (cy46, 80, .inr (.inr (.inr (.inr (fun _ => none)))))), (q55, .inl (cy7, 80, .inl (fun _ => 0)))] H := hP
  have hD : va_D A [(h, .inr (3, [.ref q7, .ref q15, .ref q22, .ref q30, .ref q38, .ref q46, .ref q55, .null, .null, .null, .null, .null, .int 0, .int 0, .int 0, .int 0, .int 0, .int 0])), (q7, .inl (cy7, 96, .inl (fun _ => 0))), (q15, .inl (cy7, 8, .inl (fun _ => 0))), (q22, .inl (cy7, 4, .inl (fun _ => 0))), (q30, .inl (cy7, 8, .inl (fun _ => 0))), (q38, .inl (cy7, 32, .inl (fun _ => 0))), (q46, .inl (cy46, 80, .inr (.inr (.inr (.inr (fun _ => none)))))), (q55, .inl (cy7, 80, .inl (fun _ => 0)))] := hD
  refine lv_aload_n hx hb dX3_init_60 rfl (lv_at hl 0 rfl) ?_
  refine lv_bipush (v := 80) hx hb dX3_init_61 (by decide) ?_
  refine k_newa (ty := .int) (N' := 80) (a0 := (80, .inl (fun _ => 0))) (atype := .int) hx hb (hts _ kw_X3_init__arrayClass_int) rfl hK 0 rfl (fun _ _ => rfl) hP hD hS hA (fun _ => rfl) (by decide) (by decide) (by decide) (by decide) (by decide) dX3_init_63 (fun q63 H hP hD hS => ?_)
  refine W.widen (k := 8) (n := 388) (by decide) (by decide) ?_
  have hP : va_P D vwCl [(h, .inr (3, [.ref q7, .ref q15, .ref q22, .ref q30, .ref q38, .ref q46, .ref q55, .null, .null, .null, .null, .null, .int 0, .int 0, .int 0, .int 0, .int 0, .int 0])), (q7, .inl (cy7, 96, .inl (fun _ => 0))), (q15, .inl (cy7, 8, .inl (fun _ => 0))), (q22, .inl (cy7, 4, .inl (fun _ => 0))), (q30, .inl (cy7, 8, .inl (fun _ => 0))), (q38, .inl (cy7, 32, .inl (fun _ => 0))), (q46, .inl (cy46, 80, .inr (.inr (.inr (.inr (fun _ => none)))))), (q55, .inl (cy7, 80, .inl (fun _ => 0))), (q63, .inl (cy7, 80, .inl (fun _ => 0)))] H := hP
  have hD : va_D A [(h, .inr (3, [.ref q7, .ref q15, .ref q22, .ref q30, .ref q38, .ref q46, .ref q55, .null, .null, .null, .null, .null, .int 0, .int 0, .int 0, .int 0, .int 0, .int 0])), (q7, .inl (cy7, 96, .inl (fun _ => 0))), (q15, .inl (cy7, 8, .inl (fun _ => 0))), (q22, .inl (cy7, 4, .inl (fun _ => 0))), (q30, .inl (cy7, 8, .inl (fun _ => 0))), (q38, .inl (cy7, 32, .inl (fun _ => 0))), (q46, .inl (cy46, 80, .inr (.inr (.inr (.inr (fun _ => none)))))), (q55, .inl (cy7, 80, .inl (fun _ => 0))), (q63, .inl (cy7, 80, .inl (fun _ => 0)))] := hD
  refine va_putF (D := D) (ci := 3) (v := .ref q63) (ty := .array .int) (C := RX3) (T := TX3) (N := 18) hx hb hts kin_X3_init_X3 tyX3 tyX3_ok nmX3 hown hK hP hD hS 0 rfl rfl 7 (by decide) (hts _ kw_X3_init__fieldLink_RX3_34_ActHouse_doneRow_I_) (fun _ h9 => h9) rfl hin rfl (by decide +kernel) rfl rfl (Nat.le_of_ble_eq_true rfl) dX3_init_65 (fun H locs hP hD hS => ?_)
  have hP : va_P D vwCl [(h, .inr (3, [.ref q7, .ref q15, .ref q22, .ref q30, .ref q38, .ref q46, .ref q55, .ref q63, .null, .null, .null, .null, .int 0, .int 0, .int 0, .int 0, .int 0, .int 0])), (q7, .inl (cy7, 96, .inl (fun _ => 0))), (q15, .inl (cy7, 8, .inl (fun _ => 0))), (q22, .inl (cy7, 4, .inl (fun _ => 0))), (q30, .inl (cy7, 8, .inl (fun _ => 0))), (q38, .inl (cy7, 32, .inl (fun _ => 0))), (q46, .inl (cy46, 80, .inr (.inr (.inr (.inr (fun _ => none)))))), (q55, .inl (cy7, 80, .inl (fun _ => 0))), (q63, .inl (cy7, 80, .inl (fun _ => 0)))] H := hP
  have hD : va_D A [(h, .inr (3, [.ref q7, .ref q15, .ref q22, .ref q30, .ref q38, .ref q46, .ref q55, .ref q63, .null, .null, .null, .null, .int 0, .int 0, .int 0, .int 0, .int 0, .int 0])), (q7, .inl (cy7, 96, .inl (fun _ => 0))), (q15, .inl (cy7, 8, .inl (fun _ => 0))), (q22, .inl (cy7, 4, .inl (fun _ => 0))), (q30, .inl (cy7, 8, .inl (fun _ => 0))), (q38, .inl (cy7, 32, .inl (fun _ => 0))), (q46, .inl (cy46, 80, .inr (.inr (.inr (.inr (fun _ => none)))))), (q55, .inl (cy7, 80, .inl (fun _ => 0))), (q63, .inl (cy7, 80, .inl (fun _ => 0)))] := hD
  refine lv_aload_n hx hb dX3_init_68 rfl (lv_at hl 0 rfl) ?_
  refine lv_bipush (v := 36) hx hb dX3_init_69 (by decide) ?_
  refine k_newa (ty := .int) (N' := 36) (a0 := (36, .inl (fun _ => 0))) (atype := .int) hx hb (hts _ kw_X3_init__arrayClass_int) rfl hK 0 rfl (fun _ _ => rfl) hP hD hS hA (fun _ => rfl) (by decide) (by decide) (by decide) (by decide) (by decide) dX3_init_71 (fun q71 H hP hD hS => ?_)
  refine W.widen (k := 9) (n := 424) (by decide) (by decide) ?_
  have hP : va_P D vwCl [(h, .inr (3, [.ref q7, .ref q15, .ref q22, .ref q30, .ref q38, .ref q46, .ref q55, .ref q63, .null, .null, .null, .null, .int 0, .int 0, .int 0, .int 0, .int 0, .int 0])), (q7, .inl (cy7, 96, .inl (fun _ => 0))), (q15, .inl (cy7, 8, .inl (fun _ => 0))), (q22, .inl (cy7, 4, .inl (fun _ => 0))), (q30, .inl (cy7, 8, .inl (fun _ => 0))), (q38, .inl (cy7, 32, .inl (fun _ => 0))), (q46, .inl (cy46, 80, .inr (.inr (.inr (.inr (fun _ => none)))))), (q55, .inl (cy7, 80, .inl (fun _ => 0))), (q63, .inl (cy7, 80, .inl (fun _ => 0))), (q71, .inl (cy7, 36, .inl (fun _ => 0)))] H := hP
  have hD : va_D A [(h, .inr (3, [.ref q7, .ref q15, .ref q22, .ref q30, .ref q38, .ref q46, .ref q55, .ref q63, .null, .null, .null, .null, .int 0, .int 0, .int 0, .int 0, .int 0, .int 0])), (q7, .inl (cy7, 96, .inl (fun _ => 0))), (q15, .inl (cy7, 8, .inl (fun _ => 0))), (q22, .inl (cy7, 4, .inl (fun _ => 0))), (q30, .inl (cy7, 8, .inl (fun _ => 0))), (q38, .inl (cy7, 32, .inl (fun _ => 0))), (q46, .inl (cy46, 80, .inr (.inr (.inr (.inr (fun _ => none)))))), (q55, .inl (cy7, 80, .inl (fun _ => 0))), (q63, .inl (cy7, 80, .inl (fun _ => 0))), (q71, .inl (cy7, 36, .inl (fun _ => 0)))] := hD
  refine va_putF (D := D) (ci := 3) (v := .ref q71) (ty := .array .int) (C := RX3) (T := TX3) (N := 18) hx hb hts kin_X3_init_X3 tyX3 tyX3_ok nmX3 hown hK hP hD hS 0 rfl rfl 8 (by decide) (hts _ kw_X3_init__fieldLink_RX3_37_ActHouse_running_I_) (fun _ h9 => h9) rfl hin rfl (by decide +kernel) rfl rfl (Nat.le_of_ble_eq_true rfl) dX3_init_73 (fun H locs hP hD hS => ?_)
  have hP : va_P D vwCl [(h, .inr (3, [.ref q7, .ref q15, .ref q22, .ref q30, .ref q38, .ref q46, .ref q55, .ref q63, .ref q71, .null, .null, .null, .int 0, .int 0, .int 0, .int 0, .int 0, .int 0])), (q7, .inl (cy7, 96, .inl (fun _ => 0))), (q15, .inl (cy7, 8, .inl (fun _ => 0))), (q22, .inl (cy7, 4, .inl (fun _ => 0))), (q30, .inl (cy7, 8, .inl (fun _ => 0))), (q38, .inl (cy7, 32, .inl (fun _ => 0))), (q46, .inl (cy46, 80, .inr (.inr (.inr (.inr (fun _ => none)))))), (q55, .inl (cy7, 80, .inl (fun _ => 0))), (q63, .inl (cy7, 80, .inl (fun _ => 0))), (q71, .inl (cy7, 36, .inl (fun _ => 0)))] H := hP
  have hD : va_D A [(h, .inr (3, [.ref q7, .ref q15, .ref q22, .ref q30, .ref q38, .ref q46, .ref q55, .ref q63, .ref q71, .null, .null, .null, .int 0, .int 0, .int 0, .int 0, .int 0, .int 0])), (q7, .inl (cy7, 96, .inl (fun _ => 0))), (q15, .inl (cy7, 8, .inl (fun _ => 0))), (q22, .inl (cy7, 4, .inl (fun _ => 0))), (q30, .inl (cy7, 8, .inl (fun _ => 0))), (q38, .inl (cy7, 32, .inl (fun _ => 0))), (q46, .inl (cy46, 80, .inr (.inr (.inr (.inr (fun _ => none)))))), (q55, .inl (cy7, 80, .inl (fun _ => 0))), (q63, .inl (cy7, 80, .inl (fun _ => 0))), (q71, .inl (cy7, 36, .inl (fun _ => 0)))] := hD
  refine lv_aload_n hx hb dX3_init_76 rfl (lv_at hl 0 rfl) ?_
  refine lv_iconst (v := 4) hx hb dX3_init_77 (by decide) ?_
  refine k_newa (ty := .int) (N' := 4) (a0 := (4, .inl (fun _ => 0))) (atype := .int) hx hb (hts _ kw_X3_init__arrayClass_int) rfl hK 0 rfl (fun _ _ => rfl) hP hD hS hA (fun _ => rfl) (by decide) (by decide) (by decide) (by decide) (by decide) dX3_init_78 (fun q78 H hP hD hS => ?_)
  refine W.widen (k := 10) (n := 428) (by decide) (by decide) ?_
  have hP : va_P D vwCl [(h, .inr (3, [.ref q7, .ref q15, .ref q22, .ref q30, .ref q38, .ref q46, .ref q55, .ref q63, .ref q71, .null, .null, .null, .int 0, .int 0, .int 0, .int 0, .int 0, .int 0])), (q7, .inl (cy7, 96, .inl (fun _ => 0))), (q15, .inl (cy7, 8, .inl (fun _ => 0))), (q22, .inl (cy7, 4, .inl (fun _ => 0))), (q30, .inl (cy7, 8, .inl (fun _ => 0))), (q38, .inl (cy7, 32, .inl (fun _ => 0))), (q46, .inl (cy46, 80, .inr (.inr (.inr (.inr (fun _ => none)))))), (q55, .inl (cy7, 80, .inl (fun _ => 0))), (q63, .inl (cy7, 80, .inl (fun _ => 0))), (q71, .inl (cy7, 36, .inl (fun _ => 0))), (q78, .inl (cy7, 4, .inl (fun _ => 0)))] H := hP
  have hD : va_D A [(h, .inr (3, [.ref q7, .ref q15, .ref q22, .ref q30, .ref q38, .ref q46, .ref q55, .ref q63, .ref q71, .null, .null, .null, .int 0, .int 0, .int 0, .int 0, .int 0, .int 0])), (q7, .inl (cy7, 96, .inl (fun _ => 0))), (q15, .inl (cy7, 8, .inl (fun _ => 0))), (q22, .inl (cy7, 4, .inl (fun _ => 0))), (q30, .inl (cy7, 8, .inl (fun _ => 0))), (q38, .inl (cy7, 32, .inl (fun _ => 0))), (q46, .inl (cy46, 80, .inr (.inr (.inr (.inr (fun _ => none)))))), (q55, .inl (cy7, 80, .inl (fun _ => 0))), (q63, .inl (cy7, 80, .inl (fun _ => 0))), (q71, .inl (cy7, 36, .inl (fun _ => 0))), (q78, .inl (cy7, 4, .inl (fun _ => 0)))] := hD
  refine va_putF (D := D) (ci := 3) (v := .ref q78) (ty := .array .int) (C := RX3) (T := TX3) (N := 18) hx hb hts kin_X3_init_X3 tyX3 tyX3_ok nmX3 hown hK hP hD hS 0 rfl rfl 9 (by decide) (hts _ kw_X3_init__fieldLink_RX3_40_ActHouse_begunOfClass_I_) (fun _ h9 => h9) rfl hin rfl (by decide +kernel) rfl rfl (Nat.le_of_ble_eq_true rfl) dX3_init_80 (fun H locs hP hD hS => ?_)
  have hP : va_P D vwCl [(h, .inr (3, [.ref q7, .ref q15, .ref q22, .ref q30, .ref q38, .ref q46, .ref q55, .ref q63, .ref q71, .ref q78, .null, .null, .int 0, .int 0, .int 0, .int 0, .int 0, .int 0])), (q7, .inl (cy7, 96, .inl (fun _ => 0))), (q15, .inl (cy7, 8, .inl (fun _ => 0))), (q22, .inl (cy7, 4, .inl (fun _ => 0))), (q30, .inl (cy7, 8, .inl (fun _ => 0))), (q38, .inl (cy7, 32, .inl (fun _ => 0))), (q46, .inl (cy46, 80, .inr (.inr (.inr (.inr (fun _ => none)))))), (q55, .inl (cy7, 80, .inl (fun _ => 0))), (q63, .inl (cy7, 80, .inl (fun _ => 0))), (q71, .inl (cy7, 36, .inl (fun _ => 0))), (q78, .inl (cy7, 4, .inl (fun _ => 0)))] H := hP
  have hD : va_D A [(h, .inr (3, [.ref q7, .ref q15, .ref q22, .ref q30, .ref q38, .ref q46, .ref q55, .ref q63, .ref q71, .ref q78, .null, .null, .int 0, .int 0, .int 0, .int 0, .int 0, .int 0])), (q7, .inl (cy7, 96, .inl (fun _ => 0))), (q15, .inl (cy7, 8, .inl (fun _ => 0))), (q22, .inl (cy7, 4, .inl (fun _ => 0))), (q30, .inl (cy7, 8, .inl (fun _ => 0))), (q38, .inl (cy7, 32, .inl (fun _ => 0))), (q46, .inl (cy46, 80, .inr (.inr (.inr (.inr (fun _ => none)))))), (q55, .inl (cy7, 80, .inl (fun _ => 0))), (q63, .inl (cy7, 80, .inl (fun _ => 0))), (q71, .inl (cy7, 36, .inl (fun _ => 0))), (q78, .inl (cy7, 4, .inl (fun _ => 0)))] := hD
  refine lv_aload_n hx hb dX3_init_83 rfl (lv_at hl 0 rfl) ?_
  refine va_new (ci := 1) (fs := [.null, .int 0, .int 0]) (C := RX1) (T := TX1) (N := 3) hx hb hts kin_X3_init_X1 tyX1 tyX1_ok hown (hts _ kw_X3_init__classLink_RX3_43_RX1) (hts _ kw_X3_init__instantiable_RX1_3) (hts _ kw_X3_init__initialized_RX1) hK hP hD hS hA rfl (fun j hj => by revert j; decide) (by decide) (by decide) dX3_init_84 (fun q84 H hP hD hS => ?_)
  refine W.widen (k := 11) (n := 431) (by decide) (by decide) ?_
  have hP : va_P D vwCl [(h, .inr (3, [.ref q7, .ref q15, .ref q22, .ref q30, .ref q38, .ref q46, .ref q55, .ref q63, .ref q71, .ref q78, .null, .null, .int 0, .int 0, .int 0, .int 0, .int 0, .int 0])), (q7, .inl (cy7, 96, .inl (fun _ => 0))), (q15, .inl (cy7, 8, .inl (fun _ => 0))), (q22, .inl (cy7, 4, .inl (fun _ => 0))), (q30, .inl (cy7, 8, .inl (fun _ => 0))), (q38, .inl (cy7, 32, .inl (fun _ => 0))), (q46, .inl (cy46, 80, .inr (.inr (.inr (.inr (fun _ => none)))))), (q55, .inl (cy7, 80, .inl (fun _ => 0))), (q63, .inl (cy7, 80, .inl (fun _ => 0))), (q71, .inl (cy7, 36, .inl (fun _ => 0))), (q78, .inl (cy7, 4, .inl (fun _ => 0))), (q84, .inr (1, [.null, .int 0, .int 0]))] H := hP
  have hD : va_D A [(h, .inr (3, [.ref q7, .ref q15, .ref q22, .ref q30, .ref q38, .ref q46, .ref q55, .ref q63, .ref q71, .ref q78, .null, .null, .int 0, .int 0, .int 0, .int 0, .int 0, .int 0])), (q7, .inl (cy7, 96, .inl (fun _ => 0))), (q15, .inl (cy7, 8, .inl (fun _ => 0))), (q22, .inl (cy7, 4, .inl (fun _ => 0))), (q30, .inl (cy7, 8, .inl (fun _ => 0))), (q38, .inl (cy7, 32, .inl (fun _ => 0))), (q46, .inl (cy46, 80, .inr (.inr (.inr (.inr (fun _ => none)))))), (q55, .inl (cy7, 80, .inl (fun _ => 0))), (q63, .inl (cy7, 80, .inl (fun _ => 0))), (q71, .inl (cy7, 36, .inl (fun _ => 0))), (q78, .inl (cy7, 4, .inl (fun _ => 0))), (q84, .inr (1, [.null, .int 0, .int 0]))] := hD
  refine lv_dup hx hb dX3_init_87 rfl ?_
  have hPc := hP.sub (ws' := [(q84, .inr (1, [.null, .int 0, .int 0]))]) [11] rfl
  have hDc := hD.sub (ws' := [(q84, .inr (1, [.null, .int 0, .int 0]))]) [11] (by decide) rfl
  have hKc := hK.sub (tys' := [(cy7, .int)]) [0] rfl
  have hFc := va_free (wc := [(q84, .inr (1, [.null, .int 0, .int 0]))]) hD hS hA [11] rfl
  refine va_callv (va_runIN (As := []) (rest := [.ref q84, .ref h]) ⟨hx, hb, hml, hown, hts⟩ (c_X1_init (l := l) (D := D) (h := q84) (cI := cy7) ) ⟨va_cnB 0 hts gX3_init_X1_init_n45 rfl rfl rfl hN45 (hts _ kw_X3_init__initialized_RX1) (by decide +kernel) ⟨Nat.le_of_ble_eq_true rfl, Nat.le_of_ble_eq_true rfl⟩, rfl, (hts _ kw_X3_init__instanceMethod_yX1_init)⟩ ⟨k_blind, fun U hU hW => ⟨rfl, k_pre hU hW hPc hKc hDc⟩⟩ rfl rfl hl.1 rfl (lv_room (Nat.le_of_ble_eq_true rfl)) dX3_init_88 ⟨by decide, by decide⟩) hS (fun q _ h => hFc q h) hFc (fun u t H1 locs ht hvm hw hB hz1 hk1 hS => ?_)
  refine W.widen (k := 12) (n := 687) (by decide) (by decide) ?_
  obtain ⟨en_1, rfl⟩ := hw
  obtain ⟨hP1, hK1, hD1⟩ := hB
  rw [ht] at hP1
  have hK1 := va_K.moved hvm.symm hK1
  obtain ⟨hP, hD⟩ := va_join (wr := [(h, .inr (3, [.ref q7, .ref q15, .ref q22, .ref q30, .ref q38, .ref q46, .ref q55, .ref q63, .ref q71, .ref q78, .null, .null, .int 0, .int 0, .int 0, .int 0, .int 0, .int 0])), (q7, .inl (cy7, 96, .inl (fun _ => 0))), (q15, .inl (cy7, 8, .inl (fun _ => 0))), (q22, .inl (cy7, 4, .inl (fun _ => 0))), (q30, .inl (cy7, 8, .inl (fun _ => 0))), (q38, .inl (cy7, 32, .inl (fun _ => 0))), (q46, .inl (cy46, 80, .inr (.inr (.inr (.inr (fun _ => none)))))), (q55, .inl (cy7, 80, .inl (fun _ => 0))), (q63, .inl (cy7, 80, .inl (fun _ => 0))), (q71, .inl (cy7, 36, .inl (fun _ => 0))), (q78, .inl (cy7, 4, .inl (fun _ => 0)))]) (w1 := [(q84, .inr (1, [.ref en_1, .int 0, .int 0])), (en_1, .inl (cy7, 256, .inl (fun _ => 0)))]) hP hD [11] [0, 1, 2, 3, 4, 5, 6, 7, 8, 9, 10] rfl rfl (by decide) (by decide) hk1 hFc hP1 hD1
  generalize H1 = H at hP hS ⊢
  have hP : va_P D vwCl [(h, .inr (3, [.ref q7, .ref q15, .ref q22, .ref q30, .ref q38, .ref q46, .ref q55, .ref q63, .ref q71, .ref q78, .null, .null, .int 0, .int 0, .int 0, .int 0, .int 0, .int 0])), (q7, .inl (cy7, 96, .inl (fun _ => 0))), (q15, .inl (cy7, 8, .inl (fun _ => 0))), (q22, .inl (cy7, 4, .inl (fun _ => 0))), (q30, .inl (cy7, 8, .inl (fun _ => 0))), (q38, .inl (cy7, 32, .inl (fun _ => 0))), (q46, .inl (cy46, 80, .inr (.inr (.inr (.inr (fun _ => none)))))), (q55, .inl (cy7, 80, .inl (fun _ => 0))), (q63, .inl (cy7, 80, .inl (fun _ => 0))), (q71, .inl (cy7, 36, .inl (fun _ => 0))), (q78, .inl (cy7, 4, .inl (fun _ => 0))), (q84, .inr (1, [.ref en_1, .int 0, .int 0])), (en_1, .inl (cy7, 256, .inl (fun _ => 0)))] H := hP
  have hD : va_D A [(h, .inr (3, [.ref q7, .ref q15, .ref q22, .ref q30, .ref q38, .ref q46, .ref q55, .ref q63, .ref q71, .ref q78, .null, .null, .int 0, .int 0, .int 0, .int 0, .int 0, .int 0])), (q7, .inl (cy7, 96, .inl (fun _ => 0))), (q15, .inl (cy7, 8, .inl (fun _ => 0))), (q22, .inl (cy7, 4, .inl (fun _ => 0))), (q30, .inl (cy7, 8, .inl (fun _ => 0))), (q38, .inl (cy7, 32, .inl (fun _ => 0))), (q46, .inl (cy46, 80, .inr (.inr (.inr (.inr (fun _ => none)))))), (q55, .inl (cy7, 80, .inl (fun _ => 0))), (q63, .inl (cy7, 80, .inl (fun _ => 0))), (q71, .inl (cy7, 36, .inl (fun _ => 0))), (q78, .inl (cy7, 4, .inl (fun _ => 0))), (q84, .inr (1, [.ref en_1, .int 0, .int 0])), (en_1, .inl (cy7, 256, .inl (fun _ => 0)))] := hD
  refine va_putF (D := D) (ci := 3) (v := .ref q84) (ty := .object "ActHouse$LogBook") (C := RX3) (T := TX3) (N := 18) hx hb hts kin_X3_init_X3 tyX3 tyX3_ok nmX3 hown hK hP hD hS 0 rfl rfl 10 (by decide) (hts _ kw_X3_init__fieldLink_RX3_46_ActHouse_book_LActHouse_LogBook_) (fun _ h9 => h9) rfl hin rfl (by decide +kernel) rfl rfl (Nat.le_of_ble_eq_true rfl) dX3_init_91 (fun H locs hP hD hS => ?_)
  have hP : va_P D vwCl [(h, .inr (3, [.ref q7, .ref q15, .ref q22, .ref q30, .ref q38, .ref q46, .ref q55, .ref q63, .ref q71, .ref q78, .ref q84, .null, .int 0, .int 0, .int 0, .int 0, .int 0, .int 0])), (q7, .inl (cy7, 96, .inl (fun _ => 0))), (q15, .inl (cy7, 8, .inl (fun _ => 0))), (q22, .inl (cy7, 4, .inl (fun _ => 0))), (q30, .inl (cy7, 8, .inl (fun _ => 0))), (q38, .inl (cy7, 32, .inl (fun _ => 0))), (q46, .inl (cy46, 80, .inr (.inr (.inr (.inr (fun _ => none)))))), (q55, .inl (cy7, 80, .inl (fun _ => 0))), (q63, .inl (cy7, 80, .inl (fun _ => 0))), (q71, .inl (cy7, 36, .inl (fun _ => 0))), (q78, .inl (cy7, 4, .inl (fun _ => 0))), (q84, .inr (1, [.ref en_1, .int 0, .int 0])), (en_1, .inl (cy7, 256, .inl (fun _ => 0)))] H := hP
  have hD : va_D A [(h, .inr (3, [.ref q7, .ref q15, .ref q22, .ref q30, .ref q38, .ref q46, .ref q55, .ref q63, .ref q71, .ref q78, .ref q84, .null, .int 0, .int 0, .int 0, .int 0, .int 0, .int 0])), (q7, .inl (cy7, 96, .inl (fun _ => 0))), (q15, .inl (cy7, 8, .inl (fun _ => 0))), (q22, .inl (cy7, 4, .inl (fun _ => 0))), (q30, .inl (cy7, 8, .inl (fun _ => 0))), (q38, .inl (cy7, 32, .inl (fun _ => 0))), (q46, .inl (cy46, 80, .inr (.inr (.inr (.inr (fun _ => none)))))), (q55, .inl (cy7, 80, .inl (fun _ => 0))), (q63, .inl (cy7, 80, .inl (fun _ => 0))), (q71, .inl (cy7, 36, .inl (fun _ => 0))), (q78, .inl (cy7, 4, .inl (fun _ => 0))), (q84, .inr (1, [.ref en_1, .int 0, .int 0])), (en_1, .inl (cy7, 256, .inl (fun _ => 0)))] := hD
  refine lv_aload_n hx hb dX3_init_94 rfl (lv_at hl 0 rfl) ?_
  refine va_new (ci := 2) (fs := [.null, .null, .int 0]) (C := RX2) (T := TX2) (N := 3) hx hb hts kin_X3_init_X2 tyX2 tyX2_ok hown (hts _ kw_X3_init__classLink_RX3_50_RX2) (hts _ kw_X3_init__instantiable_RX2_3) (hts _ kw_X3_init__initialized_RX2) hK hP hD hS hA rfl (fun j hj => by revert j; decide) (by decide) (by decide) dX3_init_95 (fun q95 H hP hD hS => ?_)
  refine W.widen (k := 13) (n := 690) (by decide) (by decide) ?_
  have hP : va_P D vwCl [(h, .inr (3, [.ref q7, .ref q15, .ref q22, .ref q30, .ref q38, .ref q46, .ref q55, .ref q63, .ref q71, .ref q78, .ref q84, .null, .int 0, .int 0, .int 0, .int 0, .int 0, .int 0])), (q7, .inl (cy7, 96, .inl (fun _ => 0))), (q15, .inl (cy7, 8, .inl (fun _ => 0))), (q22, .inl (cy7, 4, .inl (fun _ => 0))), (q30, .inl (cy7, 8, .inl (fun _ => 0))), (q38, .inl (cy7, 32, .inl (fun _ => 0))), (q46, .inl (cy46, 80, .inr (.inr (.inr (.inr (fun _ => none)))))), (q55, .inl (cy7, 80, .inl (fun _ => 0))), (q63, .inl (cy7, 80, .inl (fun _ => 0))), (q71, .inl (cy7, 36, .inl (fun _ => 0))), (q78, .inl (cy7, 4, .inl (fun _ => 0))), (q84, .inr (1, [.ref en_1, .int 0, .int 0])), (en_1, .inl (cy7, 256, .inl (fun _ => 0))), (q95, .inr (2, [.null, .null, .int 0]))] H := hP
  have hD : va_D A [(h, .inr (3, [.ref q7, .ref q15, .ref q22, .ref q30, .ref q38, .ref q46, .ref q55, .ref q63, .ref q71, .ref q78, .ref q84, .null, .int 0, .int 0, .int 0, .int 0, .int 0, .int 0])), (q7, .inl (cy7, 96, .inl (fun _ => 0))), (q15, .inl (cy7, 8, .inl (fun _ => 0))), (q22, .inl (cy7, 4, .inl (fun _ => 0))), (q30, .inl (cy7, 8, .inl (fun _ => 0))), (q38, .inl (cy7, 32, .inl (fun _ => 0))), (q46, .inl (cy46, 80, .inr (.inr (.inr (.inr (fun _ => none)))))), (q55, .inl (cy7, 80, .inl (fun _ => 0))), (q63, .inl (cy7, 80, .inl (fun _ => 0))), (q71, .inl (cy7, 36, .inl (fun _ => 0))), (q78, .inl (cy7, 4, .inl (fun _ => 0))), (q84, .inr (1, [.ref en_1, .int 0, .int 0])), (en_1, .inl (cy7, 256, .inl (fun _ => 0))), (q95, .inr (2, [.null, .null, .int 0]))] := hD
  refine lv_dup hx hb dX3_init_98 rfl ?_
  have hPc := hP.sub (ws' := [(q95, .inr (2, [.null, .null, .int 0]))]) [13] rfl
  have hDc := hD.sub (ws' := [(q95, .inr (2, [.null, .null, .int 0]))]) [13] (by decide) rfl
  have hKc := hK.sub (tys' := []) [] rfl
  have hFc := va_free (wc := [(q95, .inr (2, [.null, .null, .int 0]))]) hD hS hA [13] rfl
  refine va_callv (va_runIN (As := []) (rest := [.ref q95, .ref h]) ⟨hx, hb, hml, hown, hts⟩ (c_X2_init (l := l) (D := D) (h := q95) ) ⟨va_cnB 0 hts gX3_init_X2_init_n52 rfl rfl rfl hN52 (hts _ kw_X3_init__initialized_RX2) (by decide +kernel) ⟨Nat.le_of_ble_eq_true rfl, Nat.le_of_ble_eq_true rfl⟩, rfl, (hts _ kw_X3_init__instanceMethod_yX2_init)⟩ ⟨k_blind, fun U hU hW => ⟨rfl, k_pre hU hW hPc hKc hDc⟩⟩ rfl rfl hl.1 rfl (lv_room (Nat.le_of_ble_eq_true rfl)) dX3_init_99 ⟨by decide, by decide⟩) hS (fun q _ h => hFc q h) hFc (fun u t H1 locs ht hvm hw hB hz1 hk1 hS => ?_)
  refine W.widen (k := 15) (n := 762) (by decide) (by decide) ?_
  obtain ⟨dr_2, rc_2, cJ_2, rfl⟩ := hw
  obtain ⟨hP1, hK1, hD1⟩ := hB
  rw [ht] at hP1
  have hK1 := va_K.moved hvm.symm hK1
  obtain ⟨hP, hD⟩ := va_join (wr := [(h, .inr (3, [.ref q7, .ref q15, .ref q22, .ref q30, .ref q38, .ref q46, .ref q55, .ref q63, .ref q71, .ref q78, .ref q84, .null, .int 0, .int 0, .int 0, .int 0, .int 0, .int 0])), (q7, .inl (cy7, 96, .inl (fun _ => 0))), (q15, .inl (cy7, 8, .inl (fun _ => 0))), (q22, .inl (cy7, 4, .inl (fun _ => 0))), (q30, .inl (cy7, 8, .inl (fun _ => 0))), (q38, .inl (cy7, 32, .inl (fun _ => 0))), (q46, .inl (cy46, 80, .inr (.inr (.inr (.inr (fun _ => none)))))), (q55, .inl (cy7, 80, .inl (fun _ => 0))), (q63, .inl (cy7, 80, .inl (fun _ => 0))), (q71, .inl (cy7, 36, .inl (fun _ => 0))), (q78, .inl (cy7, 4, .inl (fun _ => 0))), (q84, .inr (1, [.ref en_1, .int 0, .int 0])), (en_1, .inl (cy7, 256, .inl (fun _ => 0)))]) (w1 := [(q95, .inr (2, [.ref dr_2, .ref rc_2, .int 0])), (dr_2, .inl (cJ_2, 36, .inr (.inl (fun _ => 0)))), (rc_2, .inl (cJ_2, 36, .inr (.inl (fun _ => 0))))]) hP hD [13] [0, 1, 2, 3, 4, 5, 6, 7, 8, 9, 10, 11, 12] rfl rfl (by decide) (by decide) hk1 hFc hP1 hD1
  generalize H1 = H at hP hS ⊢
  have hP : va_P D vwCl [(h, .inr (3, [.ref q7, .ref q15, .ref q22, .ref q30, .ref q38, .ref q46, .ref q55, .ref q63, .ref q71, .ref q78, .ref q84, .null, .int 0, .int 0, .int 0, .int 0, .int 0, .int 0])), (q7, .inl (cy7, 96, .inl (fun _ => 0))), (q15, .inl (cy7, 8, .inl (fun _ => 0))), (q22, .inl (cy7, 4, .inl (fun _ => 0))), (q30, .inl (cy7, 8, .inl (fun _ => 0))), (q38, .inl (cy7, 32, .inl (fun _ => 0))), (q46, .inl (cy46, 80, .inr (.inr (.inr (.inr (fun _ => none)))))), (q55, .inl (cy7, 80, .inl (fun _ => 0))), (q63, .inl (cy7, 80, .inl (fun _ => 0))), (q71, .inl (cy7, 36, .inl (fun _ => 0))), (q78, .inl (cy7, 4, .inl (fun _ => 0))), (q84, .inr (1, [.ref en_1, .int 0, .int 0])), (en_1, .inl (cy7, 256, .inl (fun _ => 0))), (q95, .inr (2, [.ref dr_2, .ref rc_2, .int 0])), (dr_2, .inl (cJ_2, 36, .inr (.inl (fun _ => 0)))), (rc_2, .inl (cJ_2, 36, .inr (.inl (fun _ => 0))))] H := hP
  have hD : va_D A [(h, .inr (3, [.ref q7, .ref q15, .ref q22, .ref q30, .ref q38, .ref q46, .ref q55, .ref q63, .ref q71, .ref q78, .ref q84, .null, .int 0, .int 0, .int 0, .int 0, .int 0, .int 0])), (q7, .inl (cy7, 96, .inl (fun _ => 0))), (q15, .inl (cy7, 8, .inl (fun _ => 0))), (q22, .inl (cy7, 4, .inl (fun _ => 0))), (q30, .inl (cy7, 8, .inl (fun _ => 0))), (q38, .inl (cy7, 32, .inl (fun _ => 0))), (q46, .inl (cy46, 80, .inr (.inr (.inr (.inr (fun _ => none)))))), (q55, .inl (cy7, 80, .inl (fun _ => 0))), (q63, .inl (cy7, 80, .inl (fun _ => 0))), (q71, .inl (cy7, 36, .inl (fun _ => 0))), (q78, .inl (cy7, 4, .inl (fun _ => 0))), (q84, .inr (1, [.ref en_1, .int 0, .int 0])), (en_1, .inl (cy7, 256, .inl (fun _ => 0))), (q95, .inr (2, [.ref dr_2, .ref rc_2, .int 0])), (dr_2, .inl (cJ_2, 36, .inr (.inl (fun _ => 0)))), (rc_2, .inl (cJ_2, 36, .inr (.inl (fun _ => 0))))] := hD
  have hK : va_K D vwCl [(cy7, .int), (cy46, .object RX0), (cJ_2, .long)] s := hK.app (hK1.sub (tys' := [(cJ_2, .long)]) [0] rfl)
  refine va_putF (D := D) (ci := 3) (v := .ref q95) (ty := .object "ActHouse$Waits") (C := RX3) (T := TX3) (N := 18) hx hb hts kin_X3_init_X3 tyX3 tyX3_ok nmX3 hown hK hP hD hS 0 rfl rfl 11 (by decide) (hts _ kw_X3_init__fieldLink_RX3_53_ActHouse_waits_LActHouse_Waits_) (fun _ h9 => h9) rfl hin rfl (by decide +kernel) rfl rfl (Nat.le_of_ble_eq_true rfl) dX3_init_102 (fun H locs hP hD hS => ?_)
  have hP : va_P D vwCl [(h, .inr (3, [.ref q7, .ref q15, .ref q22, .ref q30, .ref q38, .ref q46, .ref q55, .ref q63, .ref q71, .ref q78, .ref q84, .ref q95, .int 0, .int 0, .int 0, .int 0, .int 0, .int 0])), (q7, .inl (cy7, 96, .inl (fun _ => 0))), (q15, .inl (cy7, 8, .inl (fun _ => 0))), (q22, .inl (cy7, 4, .inl (fun _ => 0))), (q30, .inl (cy7, 8, .inl (fun _ => 0))), (q38, .inl (cy7, 32, .inl (fun _ => 0))), (q46, .inl (cy46, 80, .inr (.inr (.inr (.inr (fun _ => none)))))), (q55, .inl (cy7, 80, .inl (fun _ => 0))), (q63, .inl (cy7, 80, .inl (fun _ => 0))), (q71, .inl (cy7, 36, .inl (fun _ => 0))), (q78, .inl (cy7, 4, .inl (fun _ => 0))), (q84, .inr (1, [.ref en_1, .int 0, .int 0])), (en_1, .inl (cy7, 256, .inl (fun _ => 0))), (q95, .inr (2, [.ref dr_2, .ref rc_2, .int 0])), (dr_2, .inl (cJ_2, 36, .inr (.inl (fun _ => 0)))), (rc_2, .inl (cJ_2, 36, .inr (.inl (fun _ => 0))))] H := hP
  have hD : va_D A [(h, .inr (3, [.ref q7, .ref q15, .ref q22, .ref q30, .ref q38, .ref q46, .ref q55, .ref q63, .ref q71, .ref q78, .ref q84, .ref q95, .int 0, .int 0, .int 0, .int 0, .int 0, .int 0])), (q7, .inl (cy7, 96, .inl (fun _ => 0))), (q15, .inl (cy7, 8, .inl (fun _ => 0))), (q22, .inl (cy7, 4, .inl (fun _ => 0))), (q30, .inl (cy7, 8, .inl (fun _ => 0))), (q38, .inl (cy7, 32, .inl (fun _ => 0))), (q46, .inl (cy46, 80, .inr (.inr (.inr (.inr (fun _ => none)))))), (q55, .inl (cy7, 80, .inl (fun _ => 0))), (q63, .inl (cy7, 80, .inl (fun _ => 0))), (q71, .inl (cy7, 36, .inl (fun _ => 0))), (q78, .inl (cy7, 4, .inl (fun _ => 0))), (q84, .inr (1, [.ref en_1, .int 0, .int 0])), (en_1, .inl (cy7, 256, .inl (fun _ => 0))), (q95, .inr (2, [.ref dr_2, .ref rc_2, .int 0])), (dr_2, .inl (cJ_2, 36, .inr (.inl (fun _ => 0)))), (rc_2, .inl (cJ_2, 36, .inr (.inl (fun _ => 0))))] := hD
  refine lv_aload_n hx hb dX3_init_105 rfl (lv_at hl 0 rfl) ?_
  refine va_get (D := D) (ci := 3) (v := .ref q22) (C := RX3) (T := TX3) (N := 18) hx hb hts kin_X3_init_X3 hown hK hP 0 rfl rfl 2 (by decide) (hts _ kw_X3_init__fieldLink_RX3_16_ActHouse_limits_I_) (fun _ h9 => h9) rfl dX3_init_106 ?_
  refine lv_iconst (v := 3) hx hb dX3_init_109 (by decide) ?_
  have hPc := hP.sub (ws' := [(q22, .inl (cy7, 4, .inl (fun _ => 0)))]) [3] rfl
  have hDc := hD.sub (ws' := [(q22, .inl (cy7, 4, .inl (fun _ => 0)))]) [3] (by decide) rfl
  have hKc := hK.sub (tys' := [(cy7, .int)]) [0] rfl
  have hFc := va_free (wc := [(q22, .inl (cy7, 4, .inl (fun _ => 0)))]) hD hS hA [3] rfl
  refine va_callv (va_runS (As := [.ref q22, .int 3]) (rest := []) ⟨hx, hb, hml, hown, hts⟩ (c_J7_fill_53178 (l := l) (D := D) (a := q22) (v := 3) (n := 4) (f := (fun _ => 0)) (cI := cy7) (by omega)) (va_cwS 2 hts gX3_init_J7_fill_53178 rfl rfl rfl (by decide +kernel) ⟨Nat.le_of_ble_eq_true rfl, Nat.le_of_ble_eq_true rfl⟩) ⟨k_blind, fun U hU hW => ⟨rfl, k_pre hU hW hPc hKc hDc⟩⟩ rfl rfl hl.1 rfl (lv_room (Nat.le_of_ble_eq_true rfl)) dX3_init_110 ⟨by decide, by decide⟩) hS (fun q _ h => hFc q h) hFc (fun u t H1 locs ht hvm hw hB hz1 hk1 hS => ?_)
  refine W.widen (k := 15) (n := 762) (Nat.le_refl _) (Nat.le_refl _) ?_
  have hl3 : (3 : Int32).toInt = 3 := by decide
  obtain ⟨f2_3, rfl⟩ := hw
  obtain ⟨hP1, hK1, hD1⟩ := hB
  rw [ht] at hP1
  have hK1 := va_K.moved hvm.symm hK1
  obtain ⟨hP, hD⟩ := va_join (wr := [(h, .inr (3, [.ref q7, .ref q15, .ref q22, .ref q30, .ref q38, .ref q46, .ref q55, .ref q63, .ref q71, .ref q78, .ref q84, .ref q95, .int 0, .int 0, .int 0, .int 0, .int 0, .int 0])), (q7, .inl (cy7, 96, .inl (fun _ => 0))), (q15, .inl (cy7, 8, .inl (fun _ => 0))), (q30, .inl (cy7, 8, .inl (fun _ => 0))), (q38, .inl (cy7, 32, .inl (fun _ => 0))), (q46, .inl (cy46, 80, .inr (.inr (.inr (.inr (fun _ => none)))))), (q55, .inl (cy7, 80, .inl (fun _ => 0))), (q63, .inl (cy7, 80, .inl (fun _ => 0))), (q71, .inl (cy7, 36, .inl (fun _ => 0))), (q78, .inl (cy7, 4, .inl (fun _ => 0))), (q84, .inr (1, [.ref en_1, .int 0, .int 0])), (en_1, .inl (cy7, 256, .inl (fun _ => 0))), (q95, .inr (2, [.ref dr_2, .ref rc_2, .int 0])), (dr_2, .inl (cJ_2, 36, .inr (.inl (fun _ => 0)))), (rc_2, .inl (cJ_2, 36, .inr (.inl (fun _ => 0))))]) (w1 := [(q22, .inl (cy7, 4, .inl f2_3))]) hP hD [3] [0, 1, 2, 4, 5, 6, 7, 8, 9, 10, 11, 12, 13, 14, 15] rfl rfl (by decide) (by decide) hk1 hFc hP1 hD1
  generalize H1 = H at hP hS ⊢
  have hP : va_P D vwCl [(h, .inr (3, [.ref q7, .ref q15, .ref q22, .ref q30, .ref q38, .ref q46, .ref q55, .ref q63, .ref q71, .ref q78, .ref q84, .ref q95, .int 0, .int 0, .int 0, .int 0, .int 0, .int 0])), (q7, .inl (cy7, 96, .inl (fun _ => 0))), (q15, .inl (cy7, 8, .inl (fun _ => 0))), (q30, .inl (cy7, 8, .inl (fun _ => 0))), (q38, .inl (cy7, 32, .inl (fun _ => 0))), (q46, .inl (cy46, 80, .inr (.inr (.inr (.inr (fun _ => none)))))), (q55, .inl (cy7, 80, .inl (fun _ => 0))), (q63, .inl (cy7, 80, .inl (fun _ => 0))), (q71, .inl (cy7, 36, .inl (fun _ => 0))), (q78, .inl (cy7, 4, .inl (fun _ => 0))), (q84, .inr (1, [.ref en_1, .int 0, .int 0])), (en_1, .inl (cy7, 256, .inl (fun _ => 0))), (q95, .inr (2, [.ref dr_2, .ref rc_2, .int 0])), (dr_2, .inl (cJ_2, 36, .inr (.inl (fun _ => 0)))), (rc_2, .inl (cJ_2, 36, .inr (.inl (fun _ => 0)))), (q22, .inl (cy7, 4, .inl f2_3))] H := hP
  have hD : va_D A [(h, .inr (3, [.ref q7, .ref q15, .ref q22, .ref q30, .ref q38, .ref q46, .ref q55, .ref q63, .ref q71, .ref q78, .ref q84, .ref q95, .int 0, .int 0, .int 0, .int 0, .int 0, .int 0])), (q7, .inl (cy7, 96, .inl (fun _ => 0))), (q15, .inl (cy7, 8, .inl (fun _ => 0))), (q30, .inl (cy7, 8, .inl (fun _ => 0))), (q38, .inl (cy7, 32, .inl (fun _ => 0))), (q46, .inl (cy46, 80, .inr (.inr (.inr (.inr (fun _ => none)))))), (q55, .inl (cy7, 80, .inl (fun _ => 0))), (q63, .inl (cy7, 80, .inl (fun _ => 0))), (q71, .inl (cy7, 36, .inl (fun _ => 0))), (q78, .inl (cy7, 4, .inl (fun _ => 0))), (q84, .inr (1, [.ref en_1, .int 0, .int 0])), (en_1, .inl (cy7, 256, .inl (fun _ => 0))), (q95, .inr (2, [.ref dr_2, .ref rc_2, .int 0])), (dr_2, .inl (cJ_2, 36, .inr (.inl (fun _ => 0)))), (rc_2, .inl (cJ_2, 36, .inr (.inl (fun _ => 0)))), (q22, .inl (cy7, 4, .inl f2_3))] := hD
  have hP := hP.sub (ws' := [(h, .inr (3, [.ref q7, .ref q15, .ref q22, .ref q30, .ref q38, .ref q46, .ref q55, .ref q63, .ref q71, .ref q78, .ref q84, .ref q95, .int 0, .int 0, .int 0, .int 0, .int 0, .int 0])), (q7, .inl (cy7, 96, .inl (fun _ => 0))), (q15, .inl (cy7, 8, .inl (fun _ => 0))), (q22, .inl (cy7, 4, .inl f2_3)), (q30, .inl (cy7, 8, .inl (fun _ => 0))), (q38, .inl (cy7, 32, .inl (fun _ => 0))), (q46, .inl (cy46, 80, .inr (.inr (.inr (.inr (fun _ => none)))))), (q55, .inl (cy7, 80, .inl (fun _ => 0))), (q63, .inl (cy7, 80, .inl (fun _ => 0))), (q71, .inl (cy7, 36, .inl (fun _ => 0))), (q78, .inl (cy7, 4, .inl (fun _ => 0))), (q84, .inr (1, [.ref en_1, .int 0, .int 0])), (en_1, .inl (cy7, 256, .inl (fun _ => 0))), (q95, .inr (2, [.ref dr_2, .ref rc_2, .int 0])), (dr_2, .inl (cJ_2, 36, .inr (.inl (fun _ => 0)))), (rc_2, .inl (cJ_2, 36, .inr (.inl (fun _ => 0))))]) [0, 1, 2, 15, 3, 4, 5, 6, 7, 8, 9, 10, 11, 12, 13, 14] rfl
  have hD := hD.sub (ws' := [(h, .inr (3, [.ref q7, .ref q15, .ref q22, .ref q30, .ref q38, .ref q46, .ref q55, .ref q63, .ref q71, .ref q78, .ref q84, .ref q95, .int 0, .int 0, .int 0, .int 0, .int 0, .int 0])), (q7, .inl (cy7, 96, .inl (fun _ => 0))), (q15, .inl (cy7, 8, .inl (fun _ => 0))), (q22, .inl (cy7, 4, .inl f2_3)), (q30, .inl (cy7, 8, .inl (fun _ => 0))), (q38, .inl (cy7, 32, .inl (fun _ => 0))), (q46, .inl (cy46, 80, .inr (.inr (.inr (.inr (fun _ => none)))))), (q55, .inl (cy7, 80, .inl (fun _ => 0))), (q63, .inl (cy7, 80, .inl (fun _ => 0))), (q71, .inl (cy7, 36, .inl (fun _ => 0))), (q78, .inl (cy7, 4, .inl (fun _ => 0))), (q84, .inr (1, [.ref en_1, .int 0, .int 0])), (en_1, .inl (cy7, 256, .inl (fun _ => 0))), (q95, .inr (2, [.ref dr_2, .ref rc_2, .int 0])), (dr_2, .inl (cJ_2, 36, .inr (.inl (fun _ => 0)))), (rc_2, .inl (cJ_2, 36, .inr (.inl (fun _ => 0))))]) [0, 1, 2, 15, 3, 4, 5, 6, 7, 8, 9, 10, 11, 12, 13, 14] (by decide) rfl
  have hK := hK.sub (tys' := [(cy7, .int), (cy46, .object RX0), (cJ_2, .long)]) [0, 1, 2] rfl
  refine W.widen (k := 15) (n := 762) (by decide) (by decide) ?_
  exact W.vret hx hb hr (fun t ht hW => ⟨⟨([(h, .inr (3, [.ref q7, .ref q15, .ref q22, .ref q30, .ref q38, .ref q46, .ref q55, .ref q63, .ref q71, .ref q78, .ref q84, .ref q95, .int 0, .int 0, .int 0, .int 0, .int 0, .int 0])), (q7, .inl (cy7, 96, .inl (fun _ => 0))), (q15, .inl (cy7, 8, .inl (fun _ => 0))), (q22, .inl (cy7, 4, .inl f2_3)), (q30, .inl (cy7, 8, .inl (fun _ => 0))), (q38, .inl (cy7, 32, .inl (fun _ => 0))), (q46, .inl (cy46, 80, .inr (.inr (.inr (.inr (fun _ => none)))))), (q55, .inl (cy7, 80, .inl (fun _ => 0))), (q63, .inl (cy7, 80, .inl (fun _ => 0))), (q71, .inl (cy7, 36, .inl (fun _ => 0))), (q78, .inl (cy7, 4, .inl (fun _ => 0))), (q84, .inr (1, [.ref en_1, .int 0, .int 0])), (en_1, .inl (cy7, 256, .inl (fun _ => 0))), (q95, .inr (2, [.ref dr_2, .ref rc_2, .int 0])), (dr_2, .inl (cJ_2, 36, .inr (.inl (fun _ => 0)))), (rc_2, .inl (cJ_2, 36, .inr (.inl (fun _ => 0))))], [(cy7, .int), (cy46, .object RX0), (cJ_2, .long)]), rfl, ⟨q7, q15, q22, q30, q38, q46, q55, q63, q71, q78, q84, q95, en_1, dr_2, rc_2, f2_3, cy7, cy46, cJ_2, rfl⟩, ⟨by rw [ht]; exact hP, va_K.moved hW.alike hK, hD⟩⟩, hS.F ht⟩) hS.2.2 dX3_init_113
