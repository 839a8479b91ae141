/-- the reference's state: its numbers by field, its rows by field, how long its log is -/
abbrev MS : Type := (Nat → Int32) × (Nat → Nat → Int32) × Nat
def mI (M : MS) (k : Nat) (v : Int32) : MS := (upd M.1 k v, M.2.1, M.2.2)
def mA (M : MS) (k j : Nat) (v : Int32) : MS := (M.1, va_up M.2.1 k (upd (M.2.1 k) j v), M.2.2)
def mG (M : MS) (f : Nat → Int32) : MS := (M.1, va_up M.2.1 33 f, 2 * M.2.2)
def mF (ad : Nat → Nat) (M : MS) : List Value := [.int (M.1 0), .ref (ad 1), .ref (ad 2), .ref (ad 3), .ref (ad 4), .ref (ad 5), .ref (ad 6), .int (M.1 7), .ref (ad 8), .ref (ad 9), .ref (ad 10), .ref (ad 11), .ref (ad 12), .ref (ad 13), .ref (ad 14), .ref (ad 15), .ref (ad 16), .ref (ad 17), .ref (ad 18), .ref (ad 19), .ref (ad 20), .ref (ad 21), .ref (ad 22), .ref (ad 23), .ref (ad 24), .ref (ad 25), .ref (ad 26), .ref (ad 27), .ref (ad 28), .int (M.1 29), .ref (ad 30), .int (M.1 31), .int (M.1 32), .ref (ad 33), .int (M.1 34), .int (M.1 35), .ref (ad 36), .ref (ad 37), .ref (ad 38)]
def mW (cI cZ : ClassId) (h : Nat) (ad : Nat → Nat) (M : MS) : va_W := [(h, .inr (4, mF ad M)), (ad 1, .inl (cI, 24, .inl (M.2.1 1))), (ad 2, .inl (cI, 8, .inl (M.2.1 2))), (ad 3, .inl (cI, 8, .inl (M.2.1 3))), (ad 4, .inl (cI, 4, .inl (M.2.1 4))), (ad 5, .inl (cI, 8, .inl (M.2.1 5))), (ad 6, .inl (cI, 96, .inl (M.2.1 6))), (ad 8, .inl (cI, 80, .inl (M.2.1 8))), (ad 9, .inl (cI, 80, .inl (M.2.1 9))), (ad 10, .inl (cI, 80, .inl (M.2.1 10))), (ad 11, .inl (cI, 80, .inl (M.2.1 11))), (ad 12, .inl (cI, 80, .inl (M.2.1 12))), (ad 13, .inl (cI, 960, .inl (M.2.1 13))), (ad 14, .inl (cI, 80, .inl (M.2.1 14))), (ad 15, .inl (cI, 80, .inl (M.2.1 15))), (ad 16, .inl (cZ, 80, .inl (M.2.1 16))), (ad 17, .inl (cI, 80, .inl (M.2.1 17))), (ad 18, .inl (cI, 80, .inl (M.2.1 18))), (ad 19, .inl (cI, 80, .inl (M.2.1 19))), (ad 20, .inl (cI, 80, .inl (M.2.1 20))), (ad 21, .inl (cZ, 80, .inl (M.2.1 21))), (ad 22, .inl (cZ, 80, .inl (M.2.1 22))), (ad 23, .inl (cI, 1920, .inl (M.2.1 23))), (ad 24, .inl (cI, 1920, .inl (M.2.1 24))), (ad 25, .inl (cI, 640, .inl (M.2.1 25))), (ad 26, .inl (cI, 640, .inl (M.2.1 26))), (ad 27, .inl (cI, 960, .inl (M.2.1 27))), (ad 28, .inl (cI, 80, .inl (M.2.1 28))), (ad 30, .inl (cI, 80, .inl (M.2.1 30))), (ad 33, .inl (cI, M.2.2, .inl (M.2.1 33))), (ad 36, .inl (cI, 80, .inl (M.2.1 36))), (ad 37, .inl (cZ, 80, .inl (M.2.1 37))), (ad 38, .inl (cI, 81, .inl (M.2.1 38)))]
theorem mW_I0 {cI cZ : ClassId} {h : Nat} {ad : Nat → Nat} {M : MS} {v : Int32} : (mW cI cZ h ad M).set 0 (h, .inr (4, (mF ad M).set 0 (.int v))) = mW cI cZ h ad (mI M 0 v) := rfl
theorem mW_I7 {cI cZ : ClassId} {h : Nat} {ad : Nat → Nat} {M : MS} {v : Int32} : (mW cI cZ h ad M).set 0 (h, .inr (4, (mF ad M).set 7 (.int v))) = mW cI cZ h ad (mI M 7 v) := rfl
theorem mW_I29 {cI cZ : ClassId} {h : Nat} {ad : Nat → Nat} {M : MS} {v : Int32} : (mW cI cZ h ad M).set 0 (h, .inr (4, (mF ad M).set 29 (.int v))) = mW cI cZ h ad (mI M 29 v) := rfl
theorem mW_I31 {cI cZ : ClassId} {h : Nat} {ad : Nat → Nat} {M : MS} {v : Int32} : (mW cI cZ h ad M).set 0 (h, .inr (4, (mF ad M).set 31 (.int v))) = mW cI cZ h ad (mI M 31 v) := rfl
theorem mW_I32 {cI cZ : ClassId} {h : Nat} {ad : Nat → Nat} {M : MS} {v : Int32} : (mW cI cZ h ad M).set 0 (h, .inr (4, (mF ad M).set 32 (.int v))) = mW cI cZ h ad (mI M 32 v) := rfl
theorem mW_I34 {cI cZ : ClassId} {h : Nat} {ad : Nat → Nat} {M : MS} {v : Int32} : (mW cI cZ h ad M).set 0 (h, .inr (4, (mF ad M).set 34 (.int v))) = mW cI cZ h ad (mI M 34 v) := rfl
theorem mW_I35 {cI cZ : ClassId} {h : Nat} {ad : Nat → Nat} {M : MS} {v : Int32} : (mW cI cZ h ad M).set 0 (h, .inr (4, (mF ad M).set 35 (.int v))) = mW cI cZ h ad (mI M 35 v) := rfl
theorem mW_A1 {cI cZ : ClassId} {h : Nat} {ad : Nat → Nat} {M : MS} {j : Nat} {v : Int32} : (mW cI cZ h ad M).set 1 (ad 1, .inl (cI, 24, .inl (upd (M.2.1 1) j v))) = mW cI cZ h ad (mA M 1 j v) := rfl
theorem mW_A2 {cI cZ : ClassId} {h : Nat} {ad : Nat → Nat} {M : MS} {j : Nat} {v : Int32} : (mW cI cZ h ad M).set 2 (ad 2, .inl (cI, 8, .inl (upd (M.2.1 2) j v))) = mW cI cZ h ad (mA M 2 j v) := rfl
theorem mW_A3 {cI cZ : ClassId} {h : Nat} {ad : Nat → Nat} {M : MS} {j : Nat} {v : Int32} : (mW cI cZ h ad M).set 3 (ad 3, .inl (cI, 8, .inl (upd (M.2.1 3) j v))) = mW cI cZ h ad (mA M 3 j v) := rfl
theorem mW_A4 {cI cZ : ClassId} {h : Nat} {ad : Nat → Nat} {M : MS} {j : Nat} {v : Int32} : (mW cI cZ h ad M).set 4 (ad 4, .inl (cI, 4, .inl (upd (M.2.1 4) j v))) = mW cI cZ h ad (mA M 4 j v) := rfl
theorem mW_A5 {cI cZ : ClassId} {h : Nat} {ad : Nat → Nat} {M : MS} {j : Nat} {v : Int32} : (mW cI cZ h ad M).set 5 (ad 5, .inl (cI, 8, .inl (upd (M.2.1 5) j v))) = mW cI cZ h ad (mA M 5 j v) := rfl
theorem mW_A6 {cI cZ : ClassId} {h : Nat} {ad : Nat → Nat} {M : MS} {j : Nat} {v : Int32} : (mW cI cZ h ad M).set 6 (ad 6, .inl (cI, 96, .inl (upd (M.2.1 6) j v))) = mW cI cZ h ad (mA M 6 j v) := rfl
theorem mW_A8 {cI cZ : ClassId} {h : Nat} {ad : Nat → Nat} {M : MS} {j : Nat} {v : Int32} : (mW cI cZ h ad M).set 7 (ad 8, .inl (cI, 80, .inl (upd (M.2.1 8) j v))) = mW cI cZ h ad (mA M 8 j v) := rfl
theorem mW_A9 {cI cZ : ClassId} {h : Nat} {ad : Nat → Nat} {M : MS} {j : Nat} {v : Int32} : (mW cI cZ h ad M).set 8 (ad 9, .inl (cI, 80, .inl (upd (M.2.1 9) j v))) = mW cI cZ h ad (mA M 9 j v) := rfl
theorem mW_A10 {cI cZ : ClassId} {h : Nat} {ad : Nat → Nat} {M : MS} {j : Nat} {v : Int32} : (mW cI cZ h ad M).set 9 (ad 10, .inl (cI, 80, .inl (upd (M.2.1 10) j v))) = mW cI cZ h ad (mA M 10 j v) := rfl
theorem mW_A11 {cI cZ : ClassId} {h : Nat} {ad : Nat → Nat} {M : MS} {j : Nat} {v : Int32} : (mW cI cZ h ad M).set 10 (ad 11, .inl (cI, 80, .inl (upd (M.2.1 11) j v))) = mW cI cZ h ad (mA M 11 j v) := rfl
theorem mW_A12 {cI cZ : ClassId} {h : Nat} {ad : Nat → Nat} {M : MS} {j : Nat} {v : Int32} : (mW cI cZ h ad M).set 11 (ad 12, .inl (cI, 80, .inl (upd (M.2.1 12) j v))) = mW cI cZ h ad (mA M 12 j v) := rfl
theorem mW_A13 {cI cZ : ClassId} {h : Nat} {ad : Nat → Nat} {M : MS} {j : Nat} {v : Int32} : (mW cI cZ h ad M).set 12 (ad 13, .inl (cI, 960, .inl (upd (M.2.1 13) j v))) = mW cI cZ h ad (mA M 13 j v) := rfl
theorem mW_A14 {cI cZ : ClassId} {h : Nat} {ad : Nat → Nat} {M : MS} {j : Nat} {v : Int32} : (mW cI cZ h ad M).set 13 (ad 14, .inl (cI, 80, .inl (upd (M.2.1 14) j v))) = mW cI cZ h ad (mA M 14 j v) := rfl
theorem mW_A15 {cI cZ : ClassId} {h : Nat} {ad : Nat → Nat} {M : MS} {j : Nat} {v : Int32} : (mW cI cZ h ad M).set 14 (ad 15, .inl (cI, 80, .inl (upd (M.2.1 15) j v))) = mW cI cZ h ad (mA M 15 j v) := rfl
theorem mW_A16 {cI cZ : ClassId} {h : Nat} {ad : Nat → Nat} {M : MS} {j : Nat} {v : Int32} : (mW cI cZ h ad M).set 15 (ad 16, .inl (cZ, 80, .inl (upd (M.2.1 16) j v))) = mW cI cZ h ad (mA M 16 j v) := rfl
theorem mW_A17 {cI cZ : ClassId} {h : Nat} {ad : Nat → Nat} {M : MS} {j : Nat} {v : Int32} : (mW cI cZ h ad M).set 16 (ad 17, .inl (cI, 80, .inl (upd (M.2.1 17) j v))) = mW cI cZ h ad (mA M 17 j v) := rfl
theorem mW_A18 {cI cZ : ClassId} {h : Nat} {ad : Nat → Nat} {M : MS} {j : Nat} {v : Int32} : (mW cI cZ h ad M).set 17 (ad 18, .inl (cI, 80, .inl (upd (M.2.1 18) j v))) = mW cI cZ h ad (mA M 18 j v) := rfl
theorem mW_A19 {cI cZ : ClassId} {h : Nat} {ad : Nat → Nat} {M : MS} {j : Nat} {v : Int32} : (mW cI cZ h ad M).set 18 (ad 19, .inl (cI, 80, .inl (upd (M.2.1 19) j v))) = mW cI cZ h ad (mA M 19 j v) := rfl
theorem mW_A20 {cI cZ : ClassId} {h : Nat} {ad : Nat → Nat} {M : MS} {j : Nat} {v : Int32} : (mW cI cZ h ad M).set 19 (ad 20, .inl (cI, 80, .inl (upd (M.2.1 20) j v))) = mW cI cZ h ad (mA M 20 j v) := rfl
theorem mW_A21 {cI cZ : ClassId} {h : Nat} {ad : Nat → Nat} {M : MS} {j : Nat} {v : Int32} : (mW cI cZ h ad M).set 20 (ad 21, .inl (cZ, 80, .inl (upd (M.2.1 21) j v))) = mW cI cZ h ad (mA M 21 j v) := rfl
theorem mW_A22 {cI cZ : ClassId} {h : Nat} {ad : Nat → Nat} {M : MS} {j : Nat} {v : Int32} : (mW cI cZ h ad M).set 21 (ad 22, .inl (cZ, 80, .inl (upd (M.2.1 22) j v))) = mW cI cZ h ad (mA M 22 j v) := rfl
theorem mW_A23 {cI cZ : ClassId} {h : Nat} {ad : Nat → Nat} {M : MS} {j : Nat} {v : Int32} : (mW cI cZ h ad M).set 22 (ad 23, .inl (cI, 1920, .inl (upd (M.2.1 23) j v))) = mW cI cZ h ad (mA M 23 j v) := rfl
theorem mW_A24 {cI cZ : ClassId} {h : Nat} {ad : Nat → Nat} {M : MS} {j : Nat} {v : Int32} : (mW cI cZ h ad M).set 23 (ad 24, .inl (cI, 1920, .inl (upd (M.2.1 24) j v))) = mW cI cZ h ad (mA M 24 j v) := rfl
theorem mW_A25 {cI cZ : ClassId} {h : Nat} {ad : Nat → Nat} {M : MS} {j : Nat} {v : Int32} : (mW cI cZ h ad M).set 24 (ad 25, .inl (cI, 640, .inl (upd (M.2.1 25) j v))) = mW cI cZ h ad (mA M 25 j v) := rfl
theorem mW_A26 {cI cZ : ClassId} {h : Nat} {ad : Nat → Nat} {M : MS} {j : Nat} {v : Int32} : (mW cI cZ h ad M).set 25 (ad 26, .inl (cI, 640, .inl (upd (M.2.1 26) j v))) = mW cI cZ h ad (mA M 26 j v) := rfl
theorem mW_A27 {cI cZ : ClassId} {h : Nat} {ad : Nat → Nat} {M : MS} {j : Nat} {v : Int32} : (mW cI cZ h ad M).set 26 (ad 27, .inl (cI, 960, .inl (upd (M.2.1 27) j v))) = mW cI cZ h ad (mA M 27 j v) := rfl
theorem mW_A28 {cI cZ : ClassId} {h : Nat} {ad : Nat → Nat} {M : MS} {j : Nat} {v : Int32} : (mW cI cZ h ad M).set 27 (ad 28, .inl (cI, 80, .inl (upd (M.2.1 28) j v))) = mW cI cZ h ad (mA M 28 j v) := rfl
theorem mW_A30 {cI cZ : ClassId} {h : Nat} {ad : Nat → Nat} {M : MS} {j : Nat} {v : Int32} : (mW cI cZ h ad M).set 28 (ad 30, .inl (cI, 80, .inl (upd (M.2.1 30) j v))) = mW cI cZ h ad (mA M 30 j v) := rfl
theorem mW_A33 {cI cZ : ClassId} {h : Nat} {ad : Nat → Nat} {M : MS} {j : Nat} {v : Int32} : (mW cI cZ h ad M).set 29 (ad 33, .inl (cI, M.2.2, .inl (upd (M.2.1 33) j v))) = mW cI cZ h ad (mA M 33 j v) := rfl
theorem mW_A36 {cI cZ : ClassId} {h : Nat} {ad : Nat → Nat} {M : MS} {j : Nat} {v : Int32} : (mW cI cZ h ad M).set 30 (ad 36, .inl (cI, 80, .inl (upd (M.2.1 36) j v))) = mW cI cZ h ad (mA M 36 j v) := rfl
theorem mW_A37 {cI cZ : ClassId} {h : Nat} {ad : Nat → Nat} {M : MS} {j : Nat} {v : Int32} : (mW cI cZ h ad M).set 31 (ad 37, .inl (cZ, 80, .inl (upd (M.2.1 37) j v))) = mW cI cZ h ad (mA M 37 j v) := rfl
theorem mW_A38 {cI cZ : ClassId} {h : Nat} {ad : Nat → Nat} {M : MS} {j : Nat} {v : Int32} : (mW cI cZ h ad M).set 32 (ad 38, .inl (cI, 81, .inl (upd (M.2.1 38) j v))) = mW cI cZ h ad (mA M 38 j v) := rfl
theorem k_lI {β : Type} {M : MS} {k : Nat} {v : Int32} {f : MS → Option β} {b : β} (h : k_let (mI M k v) f = some b) : ∃ X : MS, X = mI M k v ∧ X.2.2 = M.2.2 ∧ f X = some b := ⟨_, rfl, rfl, h⟩
theorem k_lA {β : Type} {M : MS} {k j : Nat} {v : Int32} {f : MS → Option β} {b : β} (h : k_let (mA M k j v) f = some b) : ∃ X : MS, X = mA M k j v ∧ X.2.2 = M.2.2 ∧ f X = some b := ⟨_, rfl, rfl, h⟩
theorem k_lG {β : Type} {M : MS} {g : Nat → Int32} {f : MS → Option β} {b : β} (h : k_let (mG M g) f = some b) : ∃ X : MS, X = mG M g ∧ X.2.2 = 2 * M.2.2 ∧ f X = some b := ⟨_, rfl, rfl, h⟩

def f_X4_in (x0 : Int32) (x1 : Int32) (x2 : Int32) : Int32 := (if x0 < x1 then (0 : Int32) else (if x2 < x0 then (0 : Int32) else (1 : Int32)))
set_option maxHeartbeats 4000000 in
set_option maxRecDepth 100000 in
theorem c_X4_in {l : Launch} {D : va_G} {sz : Nat} {cI cZ : ClassId} {h : Nat} {ad : Nat → Nat} {M0 : MS} {x0 x1 x2 r' : Int32} (hf : f_X4_in x0 x1 x2 = r') : Met l yX4_in wsX4_in ({ frames := 0, cells := 0, slots := 0, locals := 0 }) (va_Pc [.int x0, .int x1, .int x2] (k_Pre D [(cI, .int), (cZ, .boolean)] (mW cI cZ h ad M0) sz)) (va_Qi (fun (r0 : Int32) (u : va_W × List (ClassId × FieldType)) => r0 = r' ∧ u = (mW cI cZ h ad M0, [(cI, .int), (cZ, .boolean)])) (k_B D (va_A (mW cI cZ h ad M0) sz)) (va_A (mW cI cZ h ad M0) sz)) (0) (0) (va_A (mW cI cZ h ad M0) sz) := by
  refine Met.ofW (cc := cX4_in) (maxL := 3) (ret := (some .boolean)) (by decide) rfl ?_
  intro p e s m args below meth c s₁ B hml hv
  obtain ⟨rfl, hsz, hP, hK, hD0⟩ := hv
  have hx := B.exec
  have hb := B.bytes
  have hr := B.returns
  have hts := atoms_spec (ws := wsX4_in) B.pre
  have hown : s.vm.findClass RX4 = some m.cls := findClass_of_methodNamed B.named
  have hlocks := B.notSynchronized
  subst hsz
  have hD := hD0.self (sz := s.heap.size)
  generalize hAe : va_A (mW cI cZ h ad M0) s.heap.size = A at hD ⊢
  have hA : ∀ q : Nat, s.heap.size ≤ q → A q := fun q h => by rw [← hAe]; exact Or.inr h
  have hS : va_S A s.heap s.heap [] := va_S.rf
  have hl := lv_entry ([.int x0, .int x1, .int x2]) (n := 3) (Nat.le_of_ble_eq_true rfl)
  rw [lg_entry_eq]
  generalize (lg_sl ([.int x0, .int x1, .int x2]) ++ List.replicate (3 - (lg_sl ([.int x0, .int x1, .int x2])).length) Slot.unset).toArray = ls at hl ⊢
  have hl : lv_has ls 3 [(0, .int x0), (1, .int x1), (2, .int x2)] := hl
  refine k_Q (fun Q hQ => ?_)
  have hq := hf
  rw [f_X4_in] at hq
  refine lv_iload_n hx hb dX4_in_0 rfl (lv_at hl 0 rfl) ?_
  refine lv_iload_n hx hb dX4_in_1 rfl (lv_at hl 1 rfl) ?_
  refine lv_icmp_lt (tgt := 14) hx hb dX4_in_2 (by decide) (fun c1 => ?_) (fun c1 => ?_)
  · skip
    rw [if_pos c1] at hq
    refine lv_iconst (v := 0) hx hb dX4_in_14 (by decide) ?_
    have e2 := hq
    subst hQ
    have hP : va_P D vwCl (mW cI cZ h ad M0) _ := hP
    have hD : va_D A (mW cI cZ h ad M0) := hD
    refine W.widen (k := 0) (n := 0) (by decide) (by decide) ?_
    exact W.zret (v := 0) hx hb hr (by decide) (fun t ht hW => ⟨⟨0, (mW cI cZ h ad M0, [(cI, .int), (cZ, .boolean)]), rfl, ⟨e2, rfl⟩, ⟨by rw [ht]; exact hP, va_K.moved hW.alike hK, hD⟩⟩, hS.F ht⟩) hS.2.2 dX4_in_15
  · skip
    rw [if_neg c1] at hq
    refine lv_iload_n hx hb dX4_in_5 rfl (lv_at hl 0 rfl) ?_
    refine lv_iload_n hx hb dX4_in_6 rfl (lv_at hl 2 rfl) ?_
    refine lv_icmp_gt (tgt := 14) hx hb dX4_in_7 (by decide) (fun c2 => ?_) (fun c2 => ?_)
    · skip
      rw [if_pos c2] at hq
      refine lv_iconst (v := 0) hx hb dX4_in_14 (by decide) ?_
      have e2 := hq
      subst hQ
      have hP : va_P D vwCl (mW cI cZ h ad M0) _ := hP
      have hD : va_D A (mW cI cZ h ad M0) := hD
      refine W.widen (k := 0) (n := 0) (by decide) (by decide) ?_
      exact W.zret (v := 0) hx hb hr (by decide) (fun t ht hW => ⟨⟨0, (mW cI cZ h ad M0, [(cI, .int), (cZ, .boolean)]), rfl, ⟨e2, rfl⟩, ⟨by rw [ht]; exact hP, va_K.moved hW.alike hK, hD⟩⟩, hS.F ht⟩) hS.2.2 dX4_in_15
    · skip
      rw [if_neg c2] at hq
      refine lv_iconst (v := 1) hx hb dX4_in_10 (by decide) ?_
      refine lv_goto (tgt := 15) hx hb dX4_in_11 (by decide) ?_
      have e2 := hq
      subst hQ
      have hP : va_P D vwCl (mW cI cZ h ad M0) _ := hP
      have hD : va_D A (mW cI cZ h ad M0) := hD
      refine W.widen (k := 0) (n := 0) (by decide) (by decide) ?_
      exact W.zret (v := 1) hx hb hr (by decide) (fun t ht hW => ⟨⟨1, (mW cI cZ h ad M0, [(cI, .int), (cZ, .boolean)]), rfl, ⟨e2, rfl⟩, ⟨by rw [ht]; exact hP, va_K.moved hW.alike hK, hD⟩⟩, hS.F ht⟩) hS.2.2 dX4_in_15
def f_X4_isProgram (x0 : Int32) : Int32 := (f_X4_in x0 (0 : Int32) (7 : Int32))
set_option maxHeartbeats 4000000 in
set_option maxRecDepth 100000 in
theorem c_X4_isProgram {l : Launch} {D : va_G} {sz : Nat} {cI cZ : ClassId} {h : Nat} {ad : Nat → Nat} {M0 : MS} {x0 r' : Int32} (hf : f_X4_isProgram x0 = r') : Met l yX4_isProgram wsX4_isProgram ({ frames := 1, cells := 0, slots := 0, locals := 22 }) (va_Pc [.int x0] (k_Pre D [(cI, .int), (cZ, .boolean)] (mW cI cZ h ad M0) sz)) (va_Qi (fun (r0 : Int32) (u : va_W × List (ClassId × FieldType)) => r0 = r' ∧ u = (mW cI cZ h ad M0, [(cI, .int), (cZ, .boolean)])) (k_B D (va_A (mW cI cZ h ad M0) sz)) (va_A (mW cI cZ h ad M0) sz)) (0) (0) (va_A (mW cI cZ h ad M0) sz) := by
  refine Met.ofW (cc := cX4_isProgram) (maxL := 1) (ret := (some .boolean)) (by decide) rfl ?_
  intro p e s m args below meth c s₁ B hml hv
  obtain ⟨rfl, hsz, hP, hK, hD0⟩ := hv
  have hx := B.exec
  have hb := B.bytes
  have hr := B.returns
  have hts := atoms_spec (ws := wsX4_isProgram) B.pre
  have hown : s.vm.findClass RX4 = some m.cls := findClass_of_methodNamed B.named
  have hlocks := B.notSynchronized
  subst hsz
  have hD := hD0.self (sz := s.heap.size)
  generalize hAe : va_A (mW cI cZ h ad M0) s.heap.size = A at hD ⊢
  have hA : ∀ q : Nat, s.heap.size ≤ q → A q := fun q h => by rw [← hAe]; exact Or.inr h
  have hS : va_S A s.heap s.heap [] := va_S.rf
  have hl := lv_entry ([.int x0]) (n := 1) (Nat.le_of_ble_eq_true rfl)
  rw [lg_entry_eq]
  generalize (lg_sl ([.int x0]) ++ List.replicate (1 - (lg_sl ([.int x0])).length) Slot.unset).toArray = ls at hl ⊢
  have hl : lv_has ls 1 [(0, .int x0)] := hl
  refine k_Q (fun Q hQ => ?_)
  have hq := hf
  rw [f_X4_isProgram] at hq
  refine lv_iload_n hx hb dX4_isProgram_0 rfl (lv_at hl 0 rfl) ?_
  refine lv_iconst (v := 0) hx hb dX4_isProgram_1 (by decide) ?_
  refine lv_bipush (v := 7) hx hb dX4_isProgram_2 (by decide) ?_
  have hFc := k_free hD hS hA
  refine va_calli (va_runS (As := [.int x0, .int 0, .int 7]) (rest := []) ⟨hx, hb, hml, hown, hts⟩ (c_X4_in (l := l) (D := D) (cI := cI) (cZ := cZ) (h := h) (ad := ad) (M0 := M0) (hf := rfl)) (va_cwS 3 hts gX4_isProgram_X4_in rfl rfl rfl (by decide +kernel) ⟨Nat.le_of_ble_eq_true rfl, Nat.le_of_ble_eq_true rfl⟩) ⟨k_blind, fun U hU hW => ⟨rfl, k_pre hU hW hP hK hD⟩⟩ rfl rfl hl.1 rfl (lv_room (Nat.le_of_ble_eq_true rfl)) dX4_isProgram_4 ⟨by decide, by decide⟩) hS (fun q _ h => hFc q h) hFc (fun r1 u t H1 locs ht hvm hw hB hz1 hk1 hS => ?_)
  obtain ⟨rfl, rfl⟩ := hw
  refine W.widen (k := 0) (n := 0) (Nat.le_refl _) (Nat.le_refl _) ?_
  obtain ⟨hP1, hK1, hD1⟩ := hB
  rw [ht] at hP1
  have hP := hP1
  have hD := k_weak hD1 hFc
  generalize H1 = H at hP hS ⊢
  have hP : va_P D vwCl (mW cI cZ h ad M0) _ := hP
  have hD : va_D A (mW cI cZ h ad M0) := hD
  have e2 := hq
  subst hQ
  have hP : va_P D vwCl (mW cI cZ h ad M0) _ := hP
  have hD : va_D A (mW cI cZ h ad M0) := hD
  refine W.widen (k := 0) (n := 0) (by decide) (by decide) ?_
  exact W.zret (v := f_X4_in x0 (0 : Int32) (7 : Int32)) hx hb hr (by unfold f_X4_in; split <;> (try split) <;> decide) (fun t ht hW => ⟨⟨f_X4_in x0 (0 : Int32) (7 : Int32), (mW cI cZ h ad M0, [(cI, .int), (cZ, .boolean)]), rfl, ⟨e2, rfl⟩, ⟨by rw [ht]; exact hP, va_K.moved hW.alike hK, hD⟩⟩, hS.F ht⟩) hS.2.2 dX4_isProgram_7
set_option maxRecDepth 100000 in
theorem kw_X4_isAct__fieldLink_RX4_111_ActHouseModel_acts_I_ : (.fieldLink RX4 111 "ActHouseModel" "acts" "I" : Cond) ∈ wsX4_isAct := by decide +kernel
set_option maxRecDepth 100000 in
theorem kin_X4_isAct_X4 : ∀ w ∈ u_ws RX4 TX4 39, w ∈ wsX4_isAct := by decide +kernel
def f_X4_isAct (x1 : Int32) (M0 : MS) : Option (Int32 × MS) := (if (f_X4_in x1 (0 : Int32) ((M0.1 7) - 1)) &&& 1 = (f_X4_in x1 (0 : Int32) ((M0.1 7) - 1)) then some ((f_X4_in x1 (0 : Int32) ((M0.1 7) - 1)), M0) else none)
set_option maxHeartbeats 4000000 in
set_option maxRecDepth 100000 in
theorem c_X4_isAct {l : Launch} {D : va_G} {sz : Nat} {cI cZ : ClassId} {h : Nat} {ad : Nat → Nat} {M0 M' : MS} {x1 r' : Int32} (hf : f_X4_isAct x1 M0 = some (r', M')) : Met l yX4_isAct wsX4_isAct ({ frames := 1, cells := 0, slots := 0, locals := 22 }) (va_Pc [.ref h, .int x1] (k_Pre D [(cI, .int), (cZ, .boolean)] (mW cI cZ h ad M0) sz)) (va_Qi (fun (r0 : Int32) (u : va_W × List (ClassId × FieldType)) => r0 = r' ∧ u = (mW cI cZ h ad M', [(cI, .int), (cZ, .boolean)]) ∧ M'.2.2 = M0.2.2) (k_B D (va_A (mW cI cZ h ad M0) sz)) (va_A (mW cI cZ h ad M0) sz)) (0) (0) (va_A (mW cI cZ h ad M0) sz) := by
  refine Met.ofW (cc := cX4_isAct) (maxL := 2) (ret := (some .boolean)) (by decide) rfl ?_
  intro p e s m args below meth c s₁ B hml hv
  obtain ⟨rfl, hsz, hP, hK, hD0⟩ := hv
  have hx := B.exec
  have hb := B.bytes
  have hr := B.returns
  have hts := atoms_spec (ws := wsX4_isAct) B.pre
  have hown : s.vm.findClass RX4 = some m.cls := findClass_of_methodNamed B.named
  have hlocks := B.notSynchronized
  subst hsz
  have hD := hD0.self (sz := s.heap.size)
  generalize hAe : va_A (mW cI cZ h ad M0) s.heap.size = A at hD ⊢
  have hA : ∀ q : Nat, s.heap.size ≤ q → A q := fun q h => by rw [← hAe]; exact Or.inr h
  have hS : va_S A s.heap s.heap [] := va_S.rf
  have hl := lv_entry ([.ref h, .int x1]) (n := 2) (Nat.le_of_ble_eq_true rfl)
  rw [lg_entry_eq]
  generalize (lg_sl ([.ref h, .int x1]) ++ List.replicate (2 - (lg_sl ([.ref h, .int x1])).length) Slot.unset).toArray = ls at hl ⊢
  have hl : lv_has ls 2 [(0, .ref h), (1, .int x1)] := hl
  refine k_Q (fun Q hQ => ?_)
  have hq := hf
  rw [f_X4_isAct] at hq
  refine lv_iload_n hx hb dX4_isAct_0 rfl (lv_at hl 1 rfl) ?_
  refine lv_iconst (v := 0) hx hb dX4_isAct_1 (by decide) ?_
  refine lv_aload_n hx hb dX4_isAct_2 rfl (lv_at hl 0 rfl) ?_
  refine va_get (D := D) (ci := 4) (v := .int (M0.1 7)) (C := RX4) (T := TX4) (N := 39) hx hb hts kin_X4_isAct_X4 hown hK hP 0 rfl rfl 7 (by decide) (hts _ kw_X4_isAct__fieldLink_RX4_111_ActHouseModel_acts_I_) (fun _ h9 => h9) rfl dX4_isAct_3 ?_
  refine lv_iconst (v := 1) hx hb dX4_isAct_6 (by decide) ?_
  refine lv_isub hx hb dX4_isAct_7 ?_
  have hFc := k_free hD hS hA
  refine va_calli (va_runS (As := [.int x1, .int 0, .int ((M0.1 7) - 1)]) (rest := []) ⟨hx, hb, hml, hown, hts⟩ (c_X4_in (l := l) (D := D) (cI := cI) (cZ := cZ) (h := h) (ad := ad) (M0 := M0) (hf := rfl)) (va_cwS 3 hts gX4_isAct_X4_in rfl rfl rfl (by decide +kernel) ⟨Nat.le_of_ble_eq_true rfl, Nat.le_of_ble_eq_true rfl⟩) ⟨k_blind, fun U hU hW => ⟨rfl, k_pre hU hW hP hK hD⟩⟩ rfl rfl hl.1 rfl (lv_room (Nat.le_of_ble_eq_true rfl)) dX4_isAct_8 ⟨by decide, by decide⟩) hS (fun q _ h => hFc q h) hFc (fun r1 u t H1 locs ht hvm hw hB hz1 hk1 hS => ?_)
  obtain ⟨rfl, rfl⟩ := hw
  refine W.widen (k := 0) (n := 0) (Nat.le_refl _) (Nat.le_refl _) ?_
  obtain ⟨hP1, hK1, hD1⟩ := hB
  rw [ht] at hP1
  have hP := hP1
  have hD := k_weak hD1 hFc
  generalize H1 = H at hP hS ⊢
  have hP : va_P D vwCl (mW cI cZ h ad M0) _ := hP
  have hD : va_D A (mW cI cZ h ad M0) := hD
  obtain ⟨b2, hq⟩ := k_if hq
  obtain ⟨e2, e3⟩ := k_so hq
  subst hQ
  have hP : va_P D vwCl (mW cI cZ h ad M0) _ := hP
  have hD : va_D A (mW cI cZ h ad M0) := hD
  refine W.widen (k := 0) (n := 0) (by decide) (by decide) ?_
  have hgE := congrArg (fun X : MS => X.2.2) e3
  have hgE : M0.2.2 = M'.2.2 := hgE
  exact W.zret (v := f_X4_in x1 (0 : Int32) ((M0.1 7) - 1)) hx hb hr (congrArg Value.int b2) (fun t ht hW => ⟨⟨f_X4_in x1 (0 : Int32) ((M0.1 7) - 1), (mW cI cZ h ad M0, [(cI, .int), (cZ, .boolean)]), rfl, ⟨e2, (congrArg (fun X : MS => ((mW cI cZ h ad X, [(cI, .int), (cZ, .boolean)]) : va_W × List (ClassId × FieldType))) e3), by omega⟩, ⟨by rw [ht]; exact hP, va_K.moved hW.alike hK, hD⟩⟩, hS.F ht⟩) hS.2.2 dX4_isAct_11
set_option maxRecDepth 100000 in
theorem kw_X4_stepOf__fieldLink_RX4_43_ActHouseModel_actSteps_I_ : (.fieldLink RX4 43 "ActHouseModel" "actSteps" "[I" : Cond) ∈ wsX4_stepOf := by decide +kernel
set_option maxRecDepth 100000 in
theorem kin_X4_stepOf_X4 : ∀ w ∈ u_ws RX4 TX4 39, w ∈ wsX4_stepOf := by decide +kernel
set_option maxRecDepth 100000 in
theorem kw_X4_stepOf__fieldLink_RX4_46_ActHouseModel_at_I_ : (.fieldLink RX4 46 "ActHouseModel" "at" "[I" : Cond) ∈ wsX4_stepOf := by decide +kernel
def f_X4_stepOf (x1 : Int32) (M0 : MS) : Option (Int32 × MS) := (if 0 ≤ x1.toInt ∧ x1.toInt < 80 then (if 0 ≤ ((12 * x1) + ((M0.2.1 14) x1.toNatClampNeg)).toInt ∧ ((12 * x1) + ((M0.2.1 14) x1.toNatClampNeg)).toInt < 960 then some (((M0.2.1 13) ((12 * x1) + ((M0.2.1 14) x1.toNatClampNeg)).toNatClampNeg), M0) else none) else none)
set_option maxHeartbeats 4000000 in
set_option maxRecDepth 100000 in
theorem c_X4_stepOf {l : Launch} {D : va_G} {sz : Nat} {cI cZ : ClassId} {h : Nat} {ad : Nat → Nat} {M0 M' : MS} {x1 r' : Int32} (hf : f_X4_stepOf x1 M0 = some (r', M')) : Met l yX4_stepOf wsX4_stepOf ({ frames := 0, cells := 0, slots := 0, locals := 0 }) (va_Pc [.ref h, .int x1] (k_Pre D [(cI, .int), (cZ, .boolean)] (mW cI cZ h ad M0) sz)) (va_Qi (fun (r0 : Int32) (u : va_W × List (ClassId × FieldType)) => r0 = r' ∧ u = (mW cI cZ h ad M', [(cI, .int), (cZ, .boolean)]) ∧ M'.2.2 = M0.2.2) (k_B D (va_A (mW cI cZ h ad M0) sz)) (va_A (mW cI cZ h ad M0) sz)) (0) (0) (va_A (mW cI cZ h ad M0) sz) := by
  refine Met.ofW (cc := cX4_stepOf) (maxL := 2) (ret := (some .int)) (by decide) rfl ?_
  intro p e s m args below meth c s₁ B hml hv
  obtain ⟨rfl, hsz, hP, hK, hD0⟩ := hv
  have hx := B.exec
  have hb := B.bytes
  have hr := B.returns
  have hts := atoms_spec (ws := wsX4_stepOf) B.pre
  have hown : s.vm.findClass RX4 = some m.cls := findClass_of_methodNamed B.named
  have hlocks := B.notSynchronized
  subst hsz
  have hD := hD0.self (sz := s.heap.size)
  generalize hAe : va_A (mW cI cZ h ad M0) s.heap.size = A at hD ⊢
  have hA : ∀ q : Nat, s.heap.size ≤ q → A q := fun q h => by rw [← hAe]; exact Or.inr h
  have hS : va_S A s.heap s.heap [] := va_S.rf
  have hl := lv_entry ([.ref h, .int x1]) (n := 2) (Nat.le_of_ble_eq_true rfl)
  rw [lg_entry_eq]
  generalize (lg_sl ([.ref h, .int x1]) ++ List.replicate (2 - (lg_sl ([.ref h, .int x1])).length) Slot.unset).toArray = ls at hl ⊢
  have hl : lv_has ls 2 [(0, .ref h), (1, .int x1)] := hl
  refine k_Q (fun Q hQ => ?_)
  have hq := hf
  rw [f_X4_stepOf] at hq
  refine lv_aload_n hx hb dX4_stepOf_0 rfl (lv_at hl 0 rfl) ?_
  refine va_get (D := D) (ci := 4) (v := .ref (ad 13)) (C := RX4) (T := TX4) (N := 39) hx hb hts kin_X4_stepOf_X4 hown hK hP 0 rfl rfl 13 (by decide) (hts _ kw_X4_stepOf__fieldLink_RX4_43_ActHouseModel_actSteps_I_) (fun _ h9 => h9) rfl dX4_stepOf_1 ?_
  refine lv_bipush (v := 12) hx hb dX4_stepOf_4 (by decide) ?_
  refine lv_iload_n hx hb dX4_stepOf_6 rfl (lv_at hl 1 rfl) ?_
  refine lv_imul hx hb dX4_stepOf_7 ?_
  refine lv_aload_n hx hb dX4_stepOf_8 rfl (lv_at hl 0 rfl) ?_
  refine va_get (D := D) (ci := 4) (v := .ref (ad 14)) (C := RX4) (T := TX4) (N := 39) hx hb hts kin_X4_stepOf_X4 hown hK hP 0 rfl rfl 14 (by decide) (hts _ kw_X4_stepOf__fieldLink_RX4_46_ActHouseModel_at_I_) (fun _ h9 => h9) rfl dX4_stepOf_9 ?_
  refine lv_iload_n hx hb dX4_stepOf_12 rfl (lv_at hl 1 rfl) ?_
  obtain ⟨b1, hq⟩ := k_if hq
  refine va_iald hx hb hK hP 13 0 (f := (M0.2.1 14)) rfl rfl (k_in b1.1 b1.2) dX4_stepOf_13 ?_
  refine lv_iadd hx hb dX4_stepOf_14 ?_
  obtain ⟨b2, hq⟩ := k_if hq
  refine va_iald hx hb hK hP 12 0 (f := (M0.2.1 13)) rfl rfl (k_in b2.1 b2.2) dX4_stepOf_15 ?_
  obtain ⟨e2, e3⟩ := k_so hq
  subst hQ
  have hP : va_P D vwCl (mW cI cZ h ad M0) _ := hP
  have hD : va_D A (mW cI cZ h ad M0) := hD
  refine W.widen (k := 0) (n := 0) (by decide) (by decide) ?_
  have hgE := congrArg (fun X : MS => X.2.2) e3
  have hgE : M0.2.2 = M'.2.2 := hgE
  exact W.iret (v := (M0.2.1 13) ((12 * x1) + ((M0.2.1 14) x1.toNatClampNeg)).toNatClampNeg) hx hb hr (fun t ht hW => ⟨⟨(M0.2.1 13) ((12 * x1) + ((M0.2.1 14) x1.toNatClampNeg)).toNatClampNeg, (mW cI cZ h ad M0, [(cI, .int), (cZ, .boolean)]), rfl, ⟨e2, (congrArg (fun X : MS => ((mW cI cZ h ad X, [(cI, .int), (cZ, .boolean)]) : va_W × List (ClassId × FieldType))) e3), by omega⟩, ⟨by rw [ht]; exact hP, va_K.moved hW.alike hK, hD⟩⟩, hS.F ht⟩) hS.2.2 dX4_stepOf_16
set_option maxRecDepth 100000 in
theorem kw_X4_bars__fieldLink_RX4_37_ActHouseModel_state_I_ : (.fieldLink RX4 37 "ActHouseModel" "state" "[I" : Cond) ∈ wsX4_bars := by decide +kernel
set_option maxRecDepth 100000 in
theorem kin_X4_bars_X4 : ∀ w ∈ u_ws RX4 TX4 39, w ∈ wsX4_bars := by decide +kernel
set_option maxRecDepth 100000 in
theorem kw_X4_bars__fieldLink_RX4_74_ActHouseModel_holds_I_ : (.fieldLink RX4 74 "ActHouseModel" "holds" "[I" : Cond) ∈ wsX4_bars := by decide +kernel
def f_X4_bars (x1 : Int32) (x2 : Int32) (x3 : Int32) (x4 : Int32) (M0 : MS) : Option (Int32 × MS) := (if x1 = x2 then some ((0 : Int32), M0) else (if 0 ≤ x1.toInt ∧ x1.toInt < 80 then (if ((M0.2.1 11) x1.toNatClampNeg) = 1 then (if 0 ≤ ((24 * x1) + x3).toInt ∧ ((24 * x1) + x3).toInt < 1920 then (if x4 = 0 then (if ((M0.2.1 23) ((24 * x1) + x3).toNatClampNeg) = 2 then some ((1 : Int32), M0) else some ((0 : Int32), M0)) else (if ((M0.2.1 23) ((24 * x1) + x3).toNatClampNeg) ≤ 0 then some ((0 : Int32), M0) else some ((1 : Int32), M0))) else none) else some ((0 : Int32), M0)) else none))
set_option maxHeartbeats 4000000 in
set_option maxRecDepth 100000 in
theorem c_X4_bars {l : Launch} {D : va_G} {sz : Nat} {cI cZ : ClassId} {h : Nat} {ad : Nat → Nat} {M0 M' : MS} {x1 x2 x3 x4 r' : Int32} (hf : f_X4_bars x1 x2 x3 x4 M0 = some (r', M')) : Met l yX4_bars wsX4_bars ({ frames := 0, cells := 0, slots := 0, locals := 0 }) (va_Pc [.ref h, .int x1, .int x2, .int x3, .int x4] (k_Pre D [(cI, .int), (cZ, .boolean)] (mW cI cZ h ad M0) sz)) (va_Qi (fun (r0 : Int32) (u : va_W × List (ClassId × FieldType)) => r0 = r' ∧ u = (mW cI cZ h ad M', [(cI, .int), (cZ, .boolean)]) ∧ M'.2.2 = M0.2.2) (k_B D (va_A (mW cI cZ h ad M0) sz)) (va_A (mW cI cZ h ad M0) sz)) (0) (0) (va_A (mW cI cZ h ad M0) sz) := by
  refine Met.ofW (cc := cX4_bars) (maxL := 6) (ret := (some .boolean)) (by decide) rfl ?_
  intro p e s m args below meth c s₁ B hml hv
  obtain ⟨rfl, hsz, hP, hK, hD0⟩ := hv
  have hx := B.exec
  have hb := B.bytes
  have hr := B.returns
  have hts := atoms_spec (ws := wsX4_bars) B.pre
  have hown : s.vm.findClass RX4 = some m.cls := findClass_of_methodNamed B.named
  have hlocks := B.notSynchronized
  subst hsz
  have hD := hD0.self (sz := s.heap.size)
  generalize hAe : va_A (mW cI cZ h ad M0) s.heap.size = A at hD ⊢
  have hA : ∀ q : Nat, s.heap.size ≤ q → A q := fun q h => by rw [← hAe]; exact Or.inr h
  have hS : va_S A s.heap s.heap [] := va_S.rf
  have hl := lv_entry ([.ref h, .int x1, .int x2, .int x3, .int x4]) (n := 6) (Nat.le_of_ble_eq_true rfl)
  rw [lg_entry_eq]
  generalize (lg_sl ([.ref h, .int x1, .int x2, .int x3, .int x4]) ++ List.replicate (6 - (lg_sl ([.ref h, .int x1, .int x2, .int x3, .int x4])).length) Slot.unset).toArray = ls at hl ⊢
  have hl : lv_has ls 6 [(0, .ref h), (1, .int x1), (2, .int x2), (3, .int x3), (4, .int x4)] := hl
  refine k_Q (fun Q hQ => ?_)
  have hq := hf
  rw [f_X4_bars] at hq
  refine lv_iload_n hx hb dX4_bars_0 rfl (lv_at hl 1 rfl) ?_
  refine lv_iload_n hx hb dX4_bars_1 rfl (lv_at hl 2 rfl) ?_
  refine lv_icmp_eq (tgt := 15) hx hb dX4_bars_2 (by decide) (fun c1 => ?_) (fun c1 => ?_)
  · skip
    rw [if_pos c1] at hq
    refine lv_iconst (v := 0) hx hb dX4_bars_15 (by decide) ?_
    obtain ⟨e2, e3⟩ := k_so hq
    subst hQ
    have hP : va_P D vwCl (mW cI cZ h ad M0) _ := hP
    have hD : va_D A (mW cI cZ h ad M0) := hD
    refine W.widen (k := 0) (n := 0) (by decide) (by decide) ?_
    have hgE := congrArg (fun X : MS => X.2.2) e3
    have hgE : M0.2.2 = M'.2.2 := hgE
    exact W.zret (v := 0) hx hb hr (by decide) (fun t ht hW => ⟨⟨0, (mW cI cZ h ad M0, [(cI, .int), (cZ, .boolean)]), rfl, ⟨e2, (congrArg (fun X : MS => ((mW cI cZ h ad X, [(cI, .int), (cZ, .boolean)]) : va_W × List (ClassId × FieldType))) e3), by omega⟩, ⟨by rw [ht]; exact hP, va_K.moved hW.alike hK, hD⟩⟩, hS.F ht⟩) hS.2.2 dX4_bars_16
  · skip
    rw [if_neg c1] at hq
    refine lv_aload_n hx hb dX4_bars_5 rfl (lv_at hl 0 rfl) ?_
    refine va_get (D := D) (ci := 4) (v := .ref (ad 11)) (C := RX4) (T := TX4) (N := 39) hx hb hts kin_X4_bars_X4 hown hK hP 0 rfl rfl 11 (by decide) (hts _ kw_X4_bars__fieldLink_RX4_37_ActHouseModel_state_I_) (fun _ h9 => h9) rfl dX4_bars_6 ?_
    refine lv_iload_n hx hb dX4_bars_9 rfl (lv_at hl 1 rfl) ?_
    obtain ⟨b2, hq⟩ := k_if hq
    refine va_iald hx hb hK hP 10 0 (f := (M0.2.1 11)) rfl rfl (k_in b2.1 b2.2) dX4_bars_10 ?_
    refine lv_iconst (v := 1) hx hb dX4_bars_11 (by decide) ?_
    refine lv_icmp_eq (tgt := 17) hx hb dX4_bars_12 (by decide) (fun c3 => ?_) (fun c3 => ?_)
    · skip
      rw [if_pos c3] at hq
      refine lv_aload_n hx hb dX4_bars_17 rfl (lv_at hl 0 rfl) ?_
      refine va_get (D := D) (ci := 4) (v := .ref (ad 23)) (C := RX4) (T := TX4) (N := 39) hx hb hts kin_X4_bars_X4 hown hK hP 0 rfl rfl 23 (by decide) (hts _ kw_X4_bars__fieldLink_RX4_74_ActHouseModel_holds_I_) (fun _ h9 => h9) rfl dX4_bars_18 ?_
      refine lv_bipush (v := 24) hx hb dX4_bars_21 (by decide) ?_
      refine lv_iload_n hx hb dX4_bars_23 rfl (lv_at hl 1 rfl) ?_
      refine lv_imul hx hb dX4_bars_24 ?_
      refine lv_iload_n hx hb dX4_bars_25 rfl (lv_at hl 3 rfl) ?_
      refine lv_iadd hx hb dX4_bars_26 ?_
      obtain ⟨b4, hq⟩ := k_if hq
      refine va_iald hx hb hK hP 22 0 (f := (M0.2.1 23)) rfl rfl (k_in b4.1 b4.2) dX4_bars_27 ?_
      refine lv_istore (lv' := [(5, .int ((M0.2.1 23) ((24 * x1) + x3).toNatClampNeg)), (0, .ref h), (1, .int x1), (2, .int x2), (3, .int x3), (4, .int x4)]) hx hb dX4_bars_28 hl (by decide) rfl (fun ls hl => ?_)
      refine lv_iload hx hb dX4_bars_30 (lv_at hl 5 rfl) ?_
      refine lv_if_eq (tgt := 48) hx hb dX4_bars_32 (by decide) (fun c5 => ?_) (fun c5 => ?_)
      · skip
        rw [if_pos c5] at hq
        refine lv_iload hx hb dX4_bars_48 (lv_at hl 0 rfl) ?_
        refine lv_iconst (v := 2) hx hb dX4_bars_50 (by decide) ?_
        refine lv_icmp_ne (tgt := 58) hx hb dX4_bars_51 (by decide) (fun c6 => ?_) (fun c6 => ?_)
        · skip
          rw [if_neg c6] at hq
          refine lv_iconst (v := 0) hx hb dX4_bars_58 (by decide) ?_
          obtain ⟨e2, e3⟩ := k_so hq
          subst hQ
          have hP : va_P D vwCl (mW cI cZ h ad M0) _ := hP
          have hD : va_D A (mW cI cZ h ad M0) := hD
          refine W.widen (k := 0) (n := 0) (by decide) (by decide) ?_
          have hgE := congrArg (fun X : MS => X.2.2) e3
          have hgE : M0.2.2 = M'.2.2 := hgE
          exact W.zret (v := 0) hx hb hr (by decide) (fun t ht hW => ⟨⟨0, (mW cI cZ h ad M0, [(cI, .int), (cZ, .boolean)]), rfl, ⟨e2, (congrArg (fun X : MS => ((mW cI cZ h ad X, [(cI, .int), (cZ, .boolean)]) : va_W × List (ClassId × FieldType))) e3), by omega⟩, ⟨by rw [ht]; exact hP, va_K.moved hW.alike hK, hD⟩⟩, hS.F ht⟩) hS.2.2 dX4_bars_59
        · skip
          rw [if_pos c6] at hq
          refine lv_iconst (v := 1) hx hb dX4_bars_54 (by decide) ?_
          refine lv_goto (tgt := 59) hx hb dX4_bars_55 (by decide) ?_
          obtain ⟨e2, e3⟩ := k_so hq
          subst hQ
          have hP : va_P D vwCl (mW cI cZ h ad M0) _ := hP
          have hD : va_D A (mW cI cZ h ad M0) := hD
          refine W.widen (k := 0) (n := 0) (by decide) (by decide) ?_
          have hgE := congrArg (fun X : MS => X.2.2) e3
          have hgE : M0.2.2 = M'.2.2 := hgE
          exact W.zret (v := 1) hx hb hr (by decide) (fun t ht hW => ⟨⟨1, (mW cI cZ h ad M0, [(cI, .int), (cZ, .boolean)]), rfl, ⟨e2, (congrArg (fun X : MS => ((mW cI cZ h ad X, [(cI, .int), (cZ, .boolean)]) : va_W × List (ClassId × FieldType))) e3), by omega⟩, ⟨by rw [ht]; exact hP, va_K.moved hW.alike hK, hD⟩⟩, hS.F ht⟩) hS.2.2 dX4_bars_59
      · skip
        rw [if_neg c5] at hq
        refine lv_iload hx hb dX4_bars_35 (lv_at hl 0 rfl) ?_
        refine lv_if_le (tgt := 44) hx hb dX4_bars_37 (by decide) (fun c7 => ?_) (fun c7 => ?_)
        · skip
          rw [if_pos c7] at hq
          refine lv_iconst (v := 0) hx hb dX4_bars_44 (by decide) ?_
          refine lv_goto (tgt := 59) hx hb dX4_bars_45 (by decide) ?_
          obtain ⟨e2, e3⟩ := k_so hq
          subst hQ
          have hP : va_P D vwCl (mW cI cZ h ad M0) _ := hP
          have hD : va_D A (mW cI cZ h ad M0) := hD
          refine W.widen (k := 0) (n := 0) (by decide) (by decide) ?_
          have hgE := congrArg (fun X : MS => X.2.2) e3
          have hgE : M0.2.2 = M'.2.2 := hgE
          exact W.zret (v := 0) hx hb hr (by decide) (fun t ht hW => ⟨⟨0, (mW cI cZ h ad M0, [(cI, .int), (cZ, .boolean)]), rfl, ⟨e2, (congrArg (fun X : MS => ((mW cI cZ h ad X, [(cI, .int), (cZ, .boolean)]) : va_W × List (ClassId × FieldType))) e3), by omega⟩, ⟨by rw [ht]; exact hP, va_K.moved hW.alike hK, hD⟩⟩, hS.F ht⟩) hS.2.2 dX4_bars_59
        · skip
          rw [if_neg c7] at hq
          refine lv_iconst (v := 1) hx hb dX4_bars_40 (by decide) ?_
          refine lv_goto (tgt := 59) hx hb dX4_bars_41 (by decide) ?_
          obtain ⟨e2, e3⟩ := k_so hq
          subst hQ
          have hP : va_P D vwCl (mW cI cZ h ad M0) _ := hP
          have hD : va_D A (mW cI cZ h ad M0) := hD
          refine W.widen (k := 0) (n := 0) (by decide) (by decide) ?_
          have hgE := congrArg (fun X : MS => X.2.2) e3
          have hgE : M0.2.2 = M'.2.2 := hgE
          exact W.zret (v := 1) hx hb hr (by decide) (fun t ht hW => ⟨⟨1, (mW cI cZ h ad M0, [(cI, .int), (cZ, .boolean)]), rfl, ⟨e2, (congrArg (fun X : MS => ((mW cI cZ h ad X, [(cI, .int), (cZ, .boolean)]) : va_W × List (ClassId × FieldType))) e3), by omega⟩, ⟨by rw [ht]; exact hP, va_K.moved hW.alike hK, hD⟩⟩, hS.F ht⟩) hS.2.2 dX4_bars_59
    · skip
      rw [if_neg c3] at hq
      refine lv_iconst (v := 0) hx hb dX4_bars_15 (by decide) ?_
      obtain ⟨e2, e3⟩ := k_so hq
      subst hQ
      have hP : va_P D vwCl (mW cI cZ h ad M0) _ := hP
      have hD : va_D A (mW cI cZ h ad M0) := hD
      refine W.widen (k := 0) (n := 0) (by decide) (by decide) ?_
      have hgE := congrArg (fun X : MS => X.2.2) e3
      have hgE : M0.2.2 = M'.2.2 := hgE
      exact W.zret (v := 0) hx hb hr (by decide) (fun t ht hW => ⟨⟨0, (mW cI cZ h ad M0, [(cI, .int), (cZ, .boolean)]), rfl, ⟨e2, (congrArg (fun X : MS => ((mW cI cZ h ad X, [(cI, .int), (cZ, .boolean)]) : va_W × List (ClassId × FieldType))) e3), by omega⟩, ⟨by rw [ht]; exact hP, va_K.moved hW.alike hK, hD⟩⟩, hS.F ht⟩) hS.2.2 dX4_bars_16
set_option maxRecDepth 100000 in
theorem kw_X4_isAhead__fieldLink_RX4_34_ActHouseModel_rank_I_ : (.fieldLink RX4 34 "ActHouseModel" "rank" "[I" : Cond) ∈ wsX4_isAhead := by decide +kernel
set_option maxRecDepth 100000 in
theorem kin_X4_isAhead_X4 : ∀ w ∈ u_ws RX4 TX4 39, w ∈ wsX4_isAhead := by decide +kernel
def f_X4_isAhead (x1 : Int32) (x2 : Int32) (M0 : MS) : Option (Int32 × MS) := (if 0 ≤ x1.toInt ∧ x1.toInt < 80 then (if 0 ≤ x2.toInt ∧ x2.toInt < 80 then (if ((M0.2.1 10) x1.toNatClampNeg) < ((M0.2.1 10) x2.toNatClampNeg) then some ((1 : Int32), M0) else (if ((M0.2.1 10) x1.toNatClampNeg) = ((M0.2.1 10) x2.toNatClampNeg) then (if x2 ≤ x1 then some ((0 : Int32), M0) else some ((1 : Int32), M0)) else some ((0 : Int32), M0))) else none) else none)
set_option maxHeartbeats 4000000 in
set_option maxRecDepth 100000 in
theorem c_X4_isAhead {l : Launch} {D : va_G} {sz : Nat} {cI cZ : ClassId} {h : Nat} {ad : Nat → Nat} {M0 M' : MS} {x1 x2 r' : Int32} (hf : f_X4_isAhead x1 x2 M0 = some (r', M')) : Met l yX4_isAhead wsX4_isAhead ({ frames := 0, cells := 0, slots := 0, locals := 0 }) (va_Pc [.ref h, .int x1, .int x2] (k_Pre D [(cI, .int), (cZ, .boolean)] (mW cI cZ h ad M0) sz)) (va_Qi (fun (r0 : Int32) (u : va_W × List (ClassId × FieldType)) => r0 = r' ∧ u = (mW cI cZ h ad M', [(cI, .int), (cZ, .boolean)]) ∧ M'.2.2 = M0.2.2) (k_B D (va_A (mW cI cZ h ad M0) sz)) (va_A (mW cI cZ h ad M0) sz)) (0) (0) (va_A (mW cI cZ h ad M0) sz) := by
  refine Met.ofW (cc := cX4_isAhead) (maxL := 3) (ret := (some .boolean)) (by decide) rfl ?_
  intro p e s m args below meth c s₁ B hml hv
  obtain ⟨rfl, hsz, hP, hK, hD0⟩ := hv
  have hx := B.exec
  have hb := B.bytes
  have hr := B.returns
  have hts := atoms_spec (ws := wsX4_isAhead) B.pre
  have hown : s.vm.findClass RX4 = some m.cls := findClass_of_methodNamed B.named
  have hlocks := B.notSynchronized
  subst hsz
  have hD := hD0.self (sz := s.heap.size)
  generalize hAe : va_A (mW cI cZ h ad M0) s.heap.size = A at hD ⊢
  have hA : ∀ q : Nat, s.heap.size ≤ q → A q := fun q h => by rw [← hAe]; exact Or.inr h
  have hS : va_S A s.heap s.heap [] := va_S.rf
  have hl := lv_entry ([.ref h, .int x1, .int x2]) (n := 3) (Nat.le_of_ble_eq_true rfl)
  rw [lg_entry_eq]
  generalize (lg_sl ([.ref h, .int x1, .int x2]) ++ List.replicate (3 - (lg_sl ([.ref h, .int x1, .int x2])).length) Slot.unset).toArray = ls at hl ⊢
  have hl : lv_has ls 3 [(0, .ref h), (1, .int x1), (2, .int x2)] := hl
  refine k_Q (fun Q hQ => ?_)
  have hq := hf
  rw [f_X4_isAhead] at hq
  refine lv_aload_n hx hb dX4_isAhead_0 rfl (lv_at hl 0 rfl) ?_
  refine va_get (D := D) (ci := 4) (v := .ref (ad 10)) (C := RX4) (T := TX4) (N := 39) hx hb hts kin_X4_isAhead_X4 hown hK hP 0 rfl rfl 10 (by decide) (hts _ kw_X4_isAhead__fieldLink_RX4_34_ActHouseModel_rank_I_) (fun _ h9 => h9) rfl dX4_isAhead_1 ?_
  refine lv_iload_n hx hb dX4_isAhead_4 rfl (lv_at hl 1 rfl) ?_
  obtain ⟨b1, hq⟩ := k_if hq
  refine va_iald hx hb hK hP 9 0 (f := (M0.2.1 10)) rfl rfl (k_in b1.1 b1.2) dX4_isAhead_5 ?_
  refine lv_aload_n hx hb dX4_isAhead_6 rfl (lv_at hl 0 rfl) ?_
  refine va_get (D := D) (ci := 4) (v := .ref (ad 10)) (C := RX4) (T := TX4) (N := 39) hx hb hts kin_X4_isAhead_X4 hown hK hP 0 rfl rfl 10 (by decide) (hts _ kw_X4_isAhead__fieldLink_RX4_34_ActHouseModel_rank_I_) (fun _ h9 => h9) rfl dX4_isAhead_7 ?_
  refine lv_iload_n hx hb dX4_isAhead_10 rfl (lv_at hl 2 rfl) ?_
  obtain ⟨b2, hq⟩ := k_if hq
  refine va_iald hx hb hK hP 9 0 (f := (M0.2.1 10)) rfl rfl (k_in b2.1 b2.2) dX4_isAhead_11 ?_
  refine lv_icmp_lt (tgt := 35) hx hb dX4_isAhead_12 (by decide) (fun c3 => ?_) (fun c3 => ?_)
  · skip
    rw [if_pos c3] at hq
    refine lv_iconst (v := 1) hx hb dX4_isAhead_35 (by decide) ?_
    refine lv_goto (tgt := 40) hx hb dX4_isAhead_36 (by decide) ?_
    obtain ⟨e2, e3⟩ := k_so hq
    subst hQ
    have hP : va_P D vwCl (mW cI cZ h ad M0) _ := hP
    have hD : va_D A (mW cI cZ h ad M0) := hD
    refine W.widen (k := 0) (n := 0) (by decide) (by decide) ?_
    have hgE := congrArg (fun X : MS => X.2.2) e3
    have hgE : M0.2.2 = M'.2.2 := hgE
    exact W.zret (v := 1) hx hb hr (by decide) (fun t ht hW => ⟨⟨1, (mW cI cZ h ad M0, [(cI, .int), (cZ, .boolean)]), rfl, ⟨e2, (congrArg (fun X : MS => ((mW cI cZ h ad X, [(cI, .int), (cZ, .boolean)]) : va_W × List (ClassId × FieldType))) e3), by omega⟩, ⟨by rw [ht]; exact hP, va_K.moved hW.alike hK, hD⟩⟩, hS.F ht⟩) hS.2.2 dX4_isAhead_40
  · skip
    rw [if_neg c3] at hq
    refine lv_aload_n hx hb dX4_isAhead_15 rfl (lv_at hl 0 rfl) ?_
    refine va_get (D := D) (ci := 4) (v := .ref (ad 10)) (C := RX4) (T := TX4) (N := 39) hx hb hts kin_X4_isAhead_X4 hown hK hP 0 rfl rfl 10 (by decide) (hts _ kw_X4_isAhead__fieldLink_RX4_34_ActHouseModel_rank_I_) (fun _ h9 => h9) rfl dX4_isAhead_16 ?_
    refine lv_iload_n hx hb dX4_isAhead_19 rfl (lv_at hl 1 rfl) ?_
    refine va_iald hx hb hK hP 9 0 (f := (M0.2.1 10)) rfl rfl (k_in b1.1 b1.2) dX4_isAhead_20 ?_
    refine lv_aload_n hx hb dX4_isAhead_21 rfl (lv_at hl 0 rfl) ?_
    refine va_get (D := D) (ci := 4) (v := .ref (ad 10)) (C := RX4) (T := TX4) (N := 39) hx hb hts kin_X4_isAhead_X4 hown hK hP 0 rfl rfl 10 (by decide) (hts _ kw_X4_isAhead__fieldLink_RX4_34_ActHouseModel_rank_I_) (fun _ h9 => h9) rfl dX4_isAhead_22 ?_
    refine lv_iload_n hx hb dX4_isAhead_25 rfl (lv_at hl 2 rfl) ?_
    refine va_iald hx hb hK hP 9 0 (f := (M0.2.1 10)) rfl rfl (k_in b2.1 b2.2) dX4_isAhead_26 ?_
    refine lv_icmp_ne (tgt := 39) hx hb dX4_isAhead_27 (by decide) (fun c4 => ?_) (fun c4 => ?_)
    · skip
      rw [if_neg c4] at hq
      refine lv_iconst (v := 0) hx hb dX4_isAhead_39 (by decide) ?_
      obtain ⟨e2, e3⟩ := k_so hq
      subst hQ
      have hP : va_P D vwCl (mW cI cZ h ad M0) _ := hP
      have hD : va_D A (mW cI cZ h ad M0) := hD
      refine W.widen (k := 0) (n := 0) (by decide) (by decide) ?_
      have hgE := congrArg (fun X : MS => X.2.2) e3
      have hgE : M0.2.2 = M'.2.2 := hgE
      exact W.zret (v := 0) hx hb hr (by decide) (fun t ht hW => ⟨⟨0, (mW cI cZ h ad M0, [(cI, .int), (cZ, .boolean)]), rfl, ⟨e2, (congrArg (fun X : MS => ((mW cI cZ h ad X, [(cI, .int), (cZ, .boolean)]) : va_W × List (ClassId × FieldType))) e3), by omega⟩, ⟨by rw [ht]; exact hP, va_K.moved hW.alike hK, hD⟩⟩, hS.F ht⟩) hS.2.2 dX4_isAhead_40
    · skip
      rw [if_pos c4] at hq
      refine lv_iload_n hx hb dX4_isAhead_30 rfl (lv_at hl 1 rfl) ?_
      refine lv_iload_n hx hb dX4_isAhead_31 rfl (lv_at hl 2 rfl) ?_
      refine lv_icmp_ge (tgt := 39) hx hb dX4_isAhead_32 (by decide) (fun c5 => ?_) (fun c5 => ?_)
      · skip
        rw [if_pos c5] at hq
        refine lv_iconst (v := 0) hx hb dX4_isAhead_39 (by decide) ?_
        obtain ⟨e2, e3⟩ := k_so hq
        subst hQ
        have hP : va_P D vwCl (mW cI cZ h ad M0) _ := hP
        have hD : va_D A (mW cI cZ h ad M0) := hD
        refine W.widen (k := 0) (n := 0) (by decide) (by decide) ?_
        have hgE := congrArg (fun X : MS => X.2.2) e3
        have hgE : M0.2.2 = M'.2.2 := hgE
        exact W.zret (v := 0) hx hb hr (by decide) (fun t ht hW => ⟨⟨0, (mW cI cZ h ad M0, [(cI, .int), (cZ, .boolean)]), rfl, ⟨e2, (congrArg (fun X : MS => ((mW cI cZ h ad X, [(cI, .int), (cZ, .boolean)]) : va_W × List (ClassId × FieldType))) e3), by omega⟩, ⟨by rw [ht]; exact hP, va_K.moved hW.alike hK, hD⟩⟩, hS.F ht⟩) hS.2.2 dX4_isAhead_40
      · skip
        rw [if_neg c5] at hq
        refine lv_iconst (v := 1) hx hb dX4_isAhead_35 (by decide) ?_
        refine lv_goto (tgt := 40) hx hb dX4_isAhead_36 (by decide) ?_
        obtain ⟨e2, e3⟩ := k_so hq
        subst hQ
        have hP : va_P D vwCl (mW cI cZ h ad M0) _ := hP
        have hD : va_D A (mW cI cZ h ad M0) := hD
        refine W.widen (k := 0) (n := 0) (by decide) (by decide) ?_
        have hgE := congrArg (fun X : MS => X.2.2) e3
        have hgE : M0.2.2 = M'.2.2 := hgE
        exact W.zret (v := 1) hx hb hr (by decide) (fun t ht hW => ⟨⟨1, (mW cI cZ h ad M0, [(cI, .int), (cZ, .boolean)]), rfl, ⟨e2, (congrArg (fun X : MS => ((mW cI cZ h ad X, [(cI, .int), (cZ, .boolean)]) : va_W × List (ClassId × FieldType))) e3), by omega⟩, ⟨by rw [ht]; exact hP, va_K.moved hW.alike hK, hD⟩⟩, hS.F ht⟩) hS.2.2 dX4_isAhead_40
set_option maxRecDepth 100000 in
theorem kw_X4_isFree__fieldLink_RX4_111_ActHouseModel_acts_I_ : (.fieldLink RX4 111 "ActHouseModel" "acts" "I" : Cond) ∈ wsX4_isFree := by decide +kernel
set_option maxRecDepth 100000 in
theorem kin_X4_isFree_X4 : ∀ w ∈ u_ws RX4 TX4 39, w ∈ wsX4_isFree := by decide +kernel
def f_X4_isFree_3  : Nat → Int32 → Int32 → Int32 → Int32 → MS → Option (Int32 × MS)
  | 0, _, _, _, _, _ => none
  | k + 1, v1, v2, v3, v4, M => (if (M.1 7) ≤ v4 then some ((1 : Int32), M) else (k_bind (f_X4_bars v4 v1 v2 v3 M) fun r2 M2 => (if r2 = 0 then f_X4_isFree_3  k v1 v2 v3 (v4 + 1) M2 else some ((0 : Int32), M2))))
def f_X4_isFree (x1 : Int32) (x2 : Int32) (x3 : Int32) (M0 : MS) : Option (Int32 × MS) := f_X4_isFree_3  200 x1 x2 x3 (0 : Int32) M0
set_option maxHeartbeats 4000000 in
set_option maxRecDepth 100000 in
theorem c_X4_isFree {l : Launch} {D : va_G} {sz : Nat} {cI cZ : ClassId} {h : Nat} {ad : Nat → Nat} {M0 M' : MS} {x1 x2 x3 r' : Int32} (hf : f_X4_isFree x1 x2 x3 M0 = some (r', M')) : Met l yX4_isFree wsX4_isFree ({ frames := 1, cells := 0, slots := 0, locals := 25 }) (va_Pc [.ref h, .int x1, .int x2, .int x3] (k_Pre D [(cI, .int), (cZ, .boolean)] (mW cI cZ h ad M0) sz)) (va_Qi (fun (r0 : Int32) (u : va_W × List (ClassId × FieldType)) => r0 = r' ∧ u = (mW cI cZ h ad M', [(cI, .int), (cZ, .boolean)]) ∧ M'.2.2 = M0.2.2) (k_B D (va_A (mW cI cZ h ad M0) sz)) (va_A (mW cI cZ h ad M0) sz)) (0) (0) (va_A (mW cI cZ h ad M0) sz) := by
  refine Met.ofW (cc := cX4_isFree) (maxL := 5) (ret := (some .boolean)) (by decide) rfl ?_
  intro p e s m args below meth c s₁ B hml hv
  obtain ⟨rfl, hsz, hP, hK, hD0⟩ := hv
  have hx := B.exec
  have hb := B.bytes
  have hr := B.returns
  have hts := atoms_spec (ws := wsX4_isFree) B.pre
  have hown : s.vm.findClass RX4 = some m.cls := findClass_of_methodNamed B.named
  have hlocks := B.notSynchronized
  subst hsz
  have hD := hD0.self (sz := s.heap.size)
  generalize hAe : va_A (mW cI cZ h ad M0) s.heap.size = A at hD ⊢
  have hA : ∀ q : Nat, s.heap.size ≤ q → A q := fun q h => by rw [← hAe]; exact Or.inr h
  have hS : va_S A s.heap s.heap [] := va_S.rf
  have hl := lv_entry ([.ref h, .int x1, .int x2, .int x3]) (n := 5) (Nat.le_of_ble_eq_true rfl)
  rw [lg_entry_eq]
  generalize (lg_sl ([.ref h, .int x1, .int x2, .int x3]) ++ List.replicate (5 - (lg_sl ([.ref h, .int x1, .int x2, .int x3])).length) Slot.unset).toArray = ls at hl ⊢
  have hl : lv_has ls 5 [(0, .ref h), (1, .int x1), (2, .int x2), (3, .int x3)] := hl
  refine k_Q (fun Q hQ => ?_)
  have B3 : ∀  (k : Nat), ∀ (v1 : Int32) (v2 : Int32) (v3 : Int32) (v4 : Int32)  (M : MS)  (H : Heap) (locs : List Loc) (ls : Array Slot), f_X4_isFree_3  k v1 v2 v3 v4 M = some (r', M') → M.2.2 = M0.2.2 → va_P D vwCl (mW cI cZ h ad M) H → va_D A (mW cI cZ h ad M) → va_S A s.heap H locs → lv_has ls 5 [(0, .ref h), (1, .int v1), (2, .int v2), (3, .int v3), (4, .int v4)] → W p l e (headSpec wsX4_isFree ({ frames := 1, cells := 0, slots := 0, locals := 25 })).room s m ([.ref h, .int x1, .int x2, .int x3] : List Value).toArray below meth c H locs (0) (0) Q (F0 m 3 ls []) := by
    intro  k
    induction k with
    | zero =>
      intro v1 v2 v3 v4  M  H locs ls hq hg hP hD hS hl
      exact absurd hq (by rw [f_X4_isFree_3]; exact k_non)
    | succ k ih =>
      intro v1 v2 v3 v4  M  H locs ls hq hg hP hD hS hl
      rw [f_X4_isFree_3] at hq
      refine lv_iload hx hb dX4_isFree_3 (lv_at hl 4 rfl) ?_
      refine lv_aload_n hx hb dX4_isFree_5 rfl (lv_at hl 0 rfl) ?_
      refine va_get (D := D) (ci := 4) (v := .int (M.1 7)) (C := RX4) (T := TX4) (N := 39) hx hb hts kin_X4_isFree_X4 hown hK hP 0 rfl rfl 7 (by decide) (hts _ kw_X4_isFree__fieldLink_RX4_111_ActHouseModel_acts_I_) (fun _ h9 => h9) rfl dX4_isFree_6 ?_
      refine lv_icmp_ge (tgt := 32) hx hb dX4_isFree_9 (by decide) (fun c1 => ?_) (fun c1 => ?_)
      · skip
        rw [if_pos c1] at hq
        refine lv_iconst (v := 1) hx hb dX4_isFree_32 (by decide) ?_
        obtain ⟨e2, e3⟩ := k_so hq
        subst hQ
        have hP : va_P D vwCl (mW cI cZ h ad M) _ := hP
        have hD : va_D A (mW cI cZ h ad M) := hD
        refine W.widen (k := 0) (n := 0) (by decide) (by decide) ?_
        have hgE := congrArg (fun X : MS => X.2.2) e3
        have hgE : M.2.2 = M'.2.2 := hgE
        exact W.zret (v := 1) hx hb hr (by decide) (fun t ht hW => ⟨⟨1, (mW cI cZ h ad M, [(cI, .int), (cZ, .boolean)]), rfl, ⟨e2, (congrArg (fun X : MS => ((mW cI cZ h ad X, [(cI, .int), (cZ, .boolean)]) : va_W × List (ClassId × FieldType))) e3), by omega⟩, ⟨by rw [ht]; exact hP, va_K.moved hW.alike hK, hD⟩⟩, hS.F ht⟩) hS.2.2 dX4_isFree_33
      · skip
        rw [if_neg c1] at hq
        refine lv_aload_n hx hb dX4_isFree_12 rfl (lv_at hl 0 rfl) ?_
        refine lv_iload hx hb dX4_isFree_13 (lv_at hl 4 rfl) ?_
        refine lv_iload_n hx hb dX4_isFree_15 rfl (lv_at hl 1 rfl) ?_
        refine lv_iload_n hx hb dX4_isFree_16 rfl (lv_at hl 2 rfl) ?_
        refine lv_iload_n hx hb dX4_isFree_17 rfl (lv_at hl 3 rfl) ?_
        obtain ⟨q2, M2, h2, hq⟩ := k_bd hq
        have hFc := k_free hD hS hA
        refine va_calli (va_runV (As := [.int v4, .int v1, .int v2, .int v3]) (rest := []) ⟨hx, hb, hml, hown, hts⟩ (c_X4_bars (l := l) (D := D) (cI := cI) (cZ := cZ) (h := h) (ad := ad)  (hf := h2)) (cwV 4 hts gX4_isFree_X4_bars rfl rfl rfl (by decide +kernel) ⟨Nat.le_of_ble_eq_true rfl, Nat.le_of_ble_eq_true rfl⟩) ⟨k_blind, va_recv hK hP (ci := 4) (q0 := 0) rfl rfl, fun U hU hW => ⟨rfl, k_pre hU hW hP hK hD⟩⟩ rfl rfl hl.1 rfl (lv_room (Nat.le_of_ble_eq_true rfl)) dX4_isFree_18 ⟨by decide, by decide⟩) hS (fun q _ h => hFc q h) hFc (fun r2 u t H1 locs ht hvm hw hB hz1 hk1 hS => ?_)
        obtain ⟨rfl, rfl, hg2⟩ := hw
        have hg2 : M2.2.2 = M.2.2 := hg2
        refine W.widen (k := 0) (n := 0) (Nat.le_refl _) (Nat.le_refl _) ?_
        obtain ⟨hP1, hK1, hD1⟩ := hB
        rw [ht] at hP1
        have hP := hP1
        have hD := k_weak hD1 hFc
        generalize H1 = H at hP hS ⊢
        have hP : va_P D vwCl (mW cI cZ h ad M2) _ := hP
        have hD : va_D A (mW cI cZ h ad M2) := hD
        refine lv_if_eq (tgt := 26) hx hb dX4_isFree_21 (by decide) (fun c3 => ?_) (fun c3 => ?_)
        · skip
          rw [if_pos c3] at hq
          refine lv_iinc (v := v4 + 1) (lv' := [(4, .int (v4 + 1)), (0, .ref h), (1, .int v1), (2, .int v2), (3, .int v3)]) hx hb dX4_isFree_26 hl (k := 4) rfl (by rfl) (by decide) rfl (fun ls hl => ?_)
          refine lv_goto (tgt := 3) hx hb dX4_isFree_29 (by decide) ?_
          exact ih v1 v2 v3 (v4 + 1) M2  _ _ _ hq (by show M2.2.2 = M0.2.2; omega) hP hD hS (lv_sub hl [1, 2, 3, 4, 0] rfl)
        · skip
          rw [if_neg c3] at hq
          refine lv_iconst (v := 0) hx hb dX4_isFree_24 (by decide) ?_
          obtain ⟨e2, e3⟩ := k_so hq
          subst hQ
          have hP : va_P D vwCl (mW cI cZ h ad M2) _ := hP
          have hD : va_D A (mW cI cZ h ad M2) := hD
          refine W.widen (k := 0) (n := 0) (by decide) (by decide) ?_
          have hgE := congrArg (fun X : MS => X.2.2) e3
          have hgE : M2.2.2 = M'.2.2 := hgE
          exact W.zret (v := 0) hx hb hr (by decide) (fun t ht hW => ⟨⟨0, (mW cI cZ h ad M2, [(cI, .int), (cZ, .boolean)]), rfl, ⟨e2, (congrArg (fun X : MS => ((mW cI cZ h ad X, [(cI, .int), (cZ, .boolean)]) : va_W × List (ClassId × FieldType))) e3), by omega⟩, ⟨by rw [ht]; exact hP, va_K.moved hW.alike hK, hD⟩⟩, hS.F ht⟩) hS.2.2 dX4_isFree_25
  have hq := hf
  rw [f_X4_isFree] at hq
  refine lv_iconst (v := 0) hx hb dX4_isFree_0 (by decide) ?_
  refine lv_istore (lv' := [(4, .int 0), (0, .ref h), (1, .int x1), (2, .int x2), (3, .int x3)]) hx hb dX4_isFree_1 hl (by decide) rfl (fun ls hl => ?_)
  exact B3  200 x1 x2 x3 (0 : Int32) M0  _ _ _ hq (by show M0.2.2 = M0.2.2; omega) hP hD hS (lv_sub hl [1, 2, 3, 4, 0] rfl)
set_option maxRecDepth 100000 in
theorem kw_X4_least__fieldLink_RX4_13_ActHouseModel_counters_I_ : (.fieldLink RX4 13 "ActHouseModel" "counters" "[I" : Cond) ∈ wsX4_least := by decide +kernel
set_option maxRecDepth 100000 in
theorem kin_X4_least_X4 : ∀ w ∈ u_ws RX4 TX4 39, w ∈ wsX4_least := by decide +kernel
set_option maxRecDepth 100000 in
theorem kw_X4_least__fieldLink_RX4_111_ActHouseModel_acts_I_ : (.fieldLink RX4 111 "ActHouseModel" "acts" "I" : Cond) ∈ wsX4_least := by decide +kernel
set_option maxRecDepth 100000 in
theorem kw_X4_least__fieldLink_RX4_37_ActHouseModel_state_I_ : (.fieldLink RX4 37 "ActHouseModel" "state" "[I" : Cond) ∈ wsX4_least := by decide +kernel
set_option maxRecDepth 100000 in
theorem kw_X4_least__fieldLink_RX4_83_ActHouseModel_below_I_ : (.fieldLink RX4 83 "ActHouseModel" "below" "[I" : Cond) ∈ wsX4_least := by decide +kernel
def f_X4_least_43 (K9 : Int32 → Int32 → Int32 → MS → Option (Int32 × MS)) (v1 : Int32) (v3 : Int32) (s0 : Int32) (s1 : Int32)  (M : MS) : Option (Int32 × MS) := K9 v1 (s1 + s0) (v3 + 1) M
def f_X4_least_9  : Nat → Int32 → Int32 → Int32 → MS → Option (Int32 × MS)
  | 0, _, _, _, _ => none
  | k + 1, v1, v2, v3, M => (if (M.1 7) ≤ v3 then some (v2, M) else (if 0 ≤ v3.toInt ∧ v3.toInt < 80 then (if ((M.2.1 11) v3.toNatClampNeg) = 1 then (if 0 ≤ ((8 * v3) + v1).toInt ∧ ((8 * v3) + v1).toInt < 640 then f_X4_least_43 (fun (v1 : Int32) (v2 : Int32) (v3 : Int32) (M : MS) => f_X4_least_9  k v1 v2 v3 M) v1 v3 ((M.2.1 26) ((8 * v3) + v1).toNatClampNeg) v2 M else none) else f_X4_least_43 (fun (v1 : Int32) (v2 : Int32) (v3 : Int32) (M : MS) => f_X4_least_9  k v1 v2 v3 M) v1 v3 (0 : Int32) v2 M) else none))
def f_X4_least (x1 : Int32) (M0 : MS) : Option (Int32 × MS) := (if 0 ≤ x1.toInt ∧ x1.toInt < 8 then f_X4_least_9  200 x1 ((M0.2.1 2) x1.toNatClampNeg) (0 : Int32) M0 else none)
set_option maxHeartbeats 4000000 in
set_option maxRecDepth 100000 in
theorem c_X4_least {l : Launch} {D : va_G} {sz : Nat} {cI cZ : ClassId} {h : Nat} {ad : Nat → Nat} {M0 M' : MS} {x1 r' : Int32} (hf : f_X4_least x1 M0 = some (r', M')) : Met l yX4_least wsX4_least ({ frames := 0, cells := 0, slots := 0, locals := 0 }) (va_Pc [.ref h, .int x1] (k_Pre D [(cI, .int), (cZ, .boolean)] (mW cI cZ h ad M0) sz)) (va_Qi (fun (r0 : Int32) (u : va_W × List (ClassId × FieldType)) => r0 = r' ∧ u = (mW cI cZ h ad M', [(cI, .int), (cZ, .boolean)]) ∧ M'.2.2 = M0.2.2) (k_B D (va_A (mW cI cZ h ad M0) sz)) (va_A (mW cI cZ h ad M0) sz)) (0) (0) (va_A (mW cI cZ h ad M0) sz) := by
  refine Met.ofW (cc := cX4_least) (maxL := 4) (ret := (some .int)) (by decide) rfl ?_
  intro p e s m args below meth c s₁ B hml hv
  obtain ⟨rfl, hsz, hP, hK, hD0⟩ := hv
  have hx := B.exec
  have hb := B.bytes
  have hr := B.returns
  have hts := atoms_spec (ws := wsX4_least) B.pre
  have hown : s.vm.findClass RX4 = some m.cls := findClass_of_methodNamed B.named
  have hlocks := B.notSynchronized
  subst hsz
  have hD := hD0.self (sz := s.heap.size)
  generalize hAe : va_A (mW cI cZ h ad M0) s.heap.size = A at hD ⊢
  have hA : ∀ q : Nat, s.heap.size ≤ q → A q := fun q h => by rw [← hAe]; exact Or.inr h
  have hS : va_S A s.heap s.heap [] := va_S.rf
  have hl := lv_entry ([.ref h, .int x1]) (n := 4) (Nat.le_of_ble_eq_true rfl)
  rw [lg_entry_eq]
  generalize (lg_sl ([.ref h, .int x1]) ++ List.replicate (4 - (lg_sl ([.ref h, .int x1])).length) Slot.unset).toArray = ls at hl ⊢
  have hl : lv_has ls 4 [(0, .ref h), (1, .int x1)] := hl
  refine k_Q (fun Q hQ => ?_)
  have B43 : ∀ (K9 : Int32 → Int32 → Int32 → MS → Option (Int32 × MS)) (hK9 : ∀ (v1 : Int32) (v2 : Int32) (v3 : Int32)  (M : MS)  (H : Heap) (locs : List Loc) (ls : Array Slot), K9 v1 v2 v3 M = some (r', M') → M.2.2 = M0.2.2 → va_P D vwCl (mW cI cZ h ad M) H → va_D A (mW cI cZ h ad M) → va_S A s.heap H locs → lv_has ls 4 [(0, .ref h), (1, .int v1), (2, .int v2), (3, .int v3)] → W p l e (headSpec wsX4_least ({ frames := 0, cells := 0, slots := 0, locals := 0 })).room s m ([.ref h, .int x1] : List Value).toArray below meth c H locs (0) (0) Q (F0 m 9 ls [])), ∀ (v1 : Int32) (v3 : Int32) (s0 : Int32) (s1 : Int32)  (M : MS)  (H : Heap) (locs : List Loc) (ls : Array Slot), f_X4_least_43 K9 v1 v3 s0 s1 M = some (r', M') → M.2.2 = M0.2.2 → va_P D vwCl (mW cI cZ h ad M) H → va_D A (mW cI cZ h ad M) → va_S A s.heap H locs → lv_has ls 4 [(0, .ref h), (1, .int v1), (3, .int v3)] → W p l e (headSpec wsX4_least ({ frames := 0, cells := 0, slots := 0, locals := 0 })).room s m ([.ref h, .int x1] : List Value).toArray below meth c H locs (0) (0) Q (F0 m 43 ls [.int s0, .int s1]) := by
    intro K9 hK9
    intro v1 v3 s0 s1  M  H locs ls hq hg hP hD hS hl
    rw [f_X4_least_43] at hq
    refine lv_iadd hx hb dX4_least_43 ?_
    refine lv_istore_n (lv' := [(2, .int (s1 + s0)), (0, .ref h), (1, .int v1), (3, .int v3)]) hx hb dX4_least_44 rfl hl (by decide) rfl (fun ls hl => ?_)
    refine lv_iinc (v := v3 + 1) (lv' := [(3, .int (v3 + 1)), (2, .int (s1 + s0)), (0, .ref h), (1, .int v1)]) hx hb dX4_least_45 hl (k := 3) rfl (by rfl) (by decide) rfl (fun ls hl => ?_)
    refine lv_goto (tgt := 9) hx hb dX4_least_48 (by decide) ?_
    exact hK9 v1 (s1 + s0) (v3 + 1) M  _ _ _ hq (by show M.2.2 = M0.2.2; omega) hP hD hS (lv_sub hl [2, 3, 1, 0] rfl)
  have B9 : ∀  (k : Nat), ∀ (v1 : Int32) (v2 : Int32) (v3 : Int32)  (M : MS)  (H : Heap) (locs : List Loc) (ls : Array Slot), f_X4_least_9  k v1 v2 v3 M = some (r', M') → M.2.2 = M0.2.2 → va_P D vwCl (mW cI cZ h ad M) H → va_D A (mW cI cZ h ad M) → va_S A s.heap H locs → lv_has ls 4 [(0, .ref h), (1, .int v1), (2, .int v2), (3, .int v3)] → W p l e (headSpec wsX4_least ({ frames := 0, cells := 0, slots := 0, locals := 0 })).room s m ([.ref h, .int x1] : List Value).toArray below meth c H locs (0) (0) Q (F0 m 9 ls []) := by
    intro  k
    induction k with
    | zero =>
      intro v1 v2 v3  M  H locs ls hq hg hP hD hS hl
      exact absurd hq (by rw [f_X4_least_9]; exact k_non)
    | succ k ih =>
      intro v1 v2 v3  M  H locs ls hq hg hP hD hS hl
      rw [f_X4_least_9] at hq
      refine lv_iload_n hx hb dX4_least_9 rfl (lv_at hl 3 rfl) ?_
      refine lv_aload_n hx hb dX4_least_10 rfl (lv_at hl 0 rfl) ?_
      refine va_get (D := D) (ci := 4) (v := .int (M.1 7)) (C := RX4) (T := TX4) (N := 39) hx hb hts kin_X4_least_X4 hown hK hP 0 rfl rfl 7 (by decide) (hts _ kw_X4_least__fieldLink_RX4_111_ActHouseModel_acts_I_) (fun _ h9 => h9) rfl dX4_least_11 ?_
      refine lv_icmp_ge (tgt := 51) hx hb dX4_least_14 (by decide) (fun c2 => ?_) (fun c2 => ?_)
      · skip
        rw [if_pos c2] at hq
        refine lv_iload_n hx hb dX4_least_51 rfl (lv_at hl 2 rfl) ?_
        obtain ⟨e2, e3⟩ := k_so hq
        subst hQ
        have hP : va_P D vwCl (mW cI cZ h ad M) _ := hP
        have hD : va_D A (mW cI cZ h ad M) := hD
        refine W.widen (k := 0) (n := 0) (by decide) (by decide) ?_
        have hgE := congrArg (fun X : MS => X.2.2) e3
        have hgE : M.2.2 = M'.2.2 := hgE
        exact W.iret (v := v2) hx hb hr (fun t ht hW => ⟨⟨v2, (mW cI cZ h ad M, [(cI, .int), (cZ, .boolean)]), rfl, ⟨e2, (congrArg (fun X : MS => ((mW cI cZ h ad X, [(cI, .int), (cZ, .boolean)]) : va_W × List (ClassId × FieldType))) e3), by omega⟩, ⟨by rw [ht]; exact hP, va_K.moved hW.alike hK, hD⟩⟩, hS.F ht⟩) hS.2.2 dX4_least_52
      · skip
        rw [if_neg c2] at hq
        refine lv_iload_n hx hb dX4_least_17 rfl (lv_at hl 2 rfl) ?_
        refine lv_aload_n hx hb dX4_least_18 rfl (lv_at hl 0 rfl) ?_
        refine va_get (D := D) (ci := 4) (v := .ref (ad 11)) (C := RX4) (T := TX4) (N := 39) hx hb hts kin_X4_least_X4 hown hK hP 0 rfl rfl 11 (by decide) (hts _ kw_X4_least__fieldLink_RX4_37_ActHouseModel_state_I_) (fun _ h9 => h9) rfl dX4_least_19 ?_
        refine lv_iload_n hx hb dX4_least_22 rfl (lv_at hl 3 rfl) ?_
        obtain ⟨b3, hq⟩ := k_if hq
        refine va_iald hx hb hK hP 10 0 (f := (M.2.1 11)) rfl rfl (k_in b3.1 b3.2) dX4_least_23 ?_
        refine lv_iconst (v := 1) hx hb dX4_least_24 (by decide) ?_
        refine lv_icmp_ne (tgt := 42) hx hb dX4_least_25 (by decide) (fun c4 => ?_) (fun c4 => ?_)
        · skip
          rw [if_neg c4] at hq
          refine lv_iconst (v := 0) hx hb dX4_least_42 (by decide) ?_
          exact B43 (fun (v1 : Int32) (v2 : Int32) (v3 : Int32) (M : MS) => f_X4_least_9  k v1 v2 v3 M) ih v1 v3 (0 : Int32) v2 M  _ _ _ hq (by show M.2.2 = M0.2.2; omega) hP hD hS (lv_sub hl [0, 1, 3] rfl)
        · skip
          rw [if_pos c4] at hq
          refine lv_aload_n hx hb dX4_least_28 rfl (lv_at hl 0 rfl) ?_
          refine va_get (D := D) (ci := 4) (v := .ref (ad 26)) (C := RX4) (T := TX4) (N := 39) hx hb hts kin_X4_least_X4 hown hK hP 0 rfl rfl 26 (by decide) (hts _ kw_X4_least__fieldLink_RX4_83_ActHouseModel_below_I_) (fun _ h9 => h9) rfl dX4_least_29 ?_
          refine lv_bipush (v := 8) hx hb dX4_least_32 (by decide) ?_
          refine lv_iload_n hx hb dX4_least_34 rfl (lv_at hl 3 rfl) ?_
          refine lv_imul hx hb dX4_least_35 ?_
          refine lv_iload_n hx hb dX4_least_36 rfl (lv_at hl 1 rfl) ?_
          refine lv_iadd hx hb dX4_least_37 ?_
          obtain ⟨b5, hq⟩ := k_if hq
          refine va_iald hx hb hK hP 25 0 (f := (M.2.1 26)) rfl rfl (k_in b5.1 b5.2) dX4_least_38 ?_
          refine lv_goto (tgt := 43) hx hb dX4_least_39 (by decide) ?_
          exact B43 (fun (v1 : Int32) (v2 : Int32) (v3 : Int32) (M : MS) => f_X4_least_9  k v1 v2 v3 M) ih v1 v3 ((M.2.1 26) ((8 * v3) + v1).toNatClampNeg) v2 M  _ _ _ hq (by show M.2.2 = M0.2.2; omega) hP hD hS (lv_sub hl [0, 1, 3] rfl)
  have hq := hf
  rw [f_X4_least] at hq
  refine lv_aload_n hx hb dX4_least_0 rfl (lv_at hl 0 rfl) ?_
  refine va_get (D := D) (ci := 4) (v := .ref (ad 2)) (C := RX4) (T := TX4) (N := 39) hx hb hts kin_X4_least_X4 hown hK hP 0 rfl rfl 2 (by decide) (hts _ kw_X4_least__fieldLink_RX4_13_ActHouseModel_counters_I_) (fun _ h9 => h9) rfl dX4_least_1 ?_
  refine lv_iload_n hx hb dX4_least_4 rfl (lv_at hl 1 rfl) ?_
  obtain ⟨b1, hq⟩ := k_if hq
  refine va_iald hx hb hK hP 2 0 (f := (M0.2.1 2)) rfl rfl (k_in b1.1 b1.2) dX4_least_5 ?_
  refine lv_istore_n (lv' := [(2, .int ((M0.2.1 2) x1.toNatClampNeg)), (0, .ref h), (1, .int x1)]) hx hb dX4_least_6 rfl hl (by decide) rfl (fun ls hl => ?_)
  refine lv_iconst (v := 0) hx hb dX4_least_7 (by decide) ?_
  refine lv_istore_n (lv' := [(3, .int 0), (2, .int ((M0.2.1 2) x1.toNatClampNeg)), (0, .ref h), (1, .int x1)]) hx hb dX4_least_8 rfl hl (by decide) rfl (fun ls hl => ?_)
  exact B9  200 x1 ((M0.2.1 2) x1.toNatClampNeg) (0 : Int32) M0  _ _ _ hq (by show M0.2.2 = M0.2.2; omega) hP hD hS (lv_sub hl [2, 3, 1, 0] rfl)
set_option maxRecDepth 100000 in
theorem kw_X4_seen__fieldLink_RX4_74_ActHouseModel_holds_I_ : (.fieldLink RX4 74 "ActHouseModel" "holds" "[I" : Cond) ∈ wsX4_seen := by decide +kernel
set_option maxRecDepth 100000 in
theorem kin_X4_seen_X4 : ∀ w ∈ u_ws RX4 TX4 39, w ∈ wsX4_seen := by decide +kernel
set_option maxRecDepth 100000 in
theorem kw_X4_seen__fieldLink_RX4_9_ActHouseModel_cells_I_ : (.fieldLink RX4 9 "ActHouseModel" "cells" "[I" : Cond) ∈ wsX4_seen := by decide +kernel
set_option maxRecDepth 100000 in
theorem kw_X4_seen__fieldLink_RX4_77_ActHouseModel_writes_I_ : (.fieldLink RX4 77 "ActHouseModel" "writes" "[I" : Cond) ∈ wsX4_seen := by decide +kernel
def f_X4_seen (x1 : Int32) (x2 : Int32) (M0 : MS) : Option (Int32 × MS) := (if 0 ≤ ((24 * x1) + x2).toInt ∧ ((24 * x1) + x2).toInt < 1920 then (if ((M0.2.1 23) ((24 * x1) + x2).toNatClampNeg) = 2 then some (((M0.2.1 24) ((24 * x1) + x2).toNatClampNeg), M0) else (if 0 ≤ x2.toInt ∧ x2.toInt < 24 then some (((M0.2.1 1) x2.toNatClampNeg), M0) else none)) else none)
set_option maxHeartbeats 4000000 in
set_option maxRecDepth 100000 in
theorem c_X4_seen {l : Launch} {D : va_G} {sz : Nat} {cI cZ : ClassId} {h : Nat} {ad : Nat → Nat} {M0 M' : MS} {x1 x2 r' : Int32} (hf : f_X4_seen x1 x2 M0 = some (r', M')) : Met l yX4_seen wsX4_seen ({ frames := 0, cells := 0, slots := 0, locals := 0 }) (va_Pc [.ref h, .int x1, .int x2] (k_Pre D [(cI, .int), (cZ, .boolean)] (mW cI cZ h ad M0) sz)) (va_Qi (fun (r0 : Int32) (u : va_W × List (ClassId × FieldType)) => r0 = r' ∧ u = (mW cI cZ h ad M', [(cI, .int), (cZ, .boolean)]) ∧ M'.2.2 = M0.2.2) (k_B D (va_A (mW cI cZ h ad M0) sz)) (va_A (mW cI cZ h ad M0) sz)) (0) (0) (va_A (mW cI cZ h ad M0) sz) := by
  refine Met.ofW (cc := cX4_seen) (maxL := 3) (ret := (some .int)) (by decide) rfl ?_
  intro p e s m args below meth c s₁ B hml hv
  obtain ⟨rfl, hsz, hP, hK, hD0⟩ := hv
  have hx := B.exec
  have hb := B.bytes
  have hr := B.returns
  have hts := atoms_spec (ws := wsX4_seen) B.pre
  have hown : s.vm.findClass RX4 = some m.cls := findClass_of_methodNamed B.named
  have hlocks := B.notSynchronized
  subst hsz
  have hD := hD0.self (sz := s.heap.size)
  generalize hAe : va_A (mW cI cZ h ad M0) s.heap.size = A at hD ⊢
  have hA : ∀ q : Nat, s.heap.size ≤ q → A q := fun q h => by rw [← hAe]; exact Or.inr h
  have hS : va_S A s.heap s.heap [] := va_S.rf
  have hl := lv_entry ([.ref h, .int x1, .int x2]) (n := 3) (Nat.le_of_ble_eq_true rfl)
  rw [lg_entry_eq]
  generalize (lg_sl ([.ref h, .int x1, .int x2]) ++ List.replicate (3 - (lg_sl ([.ref h, .int x1, .int x2])).length) Slot.unset).toArray = ls at hl ⊢
  have hl : lv_has ls 3 [(0, .ref h), (1, .int x1), (2, .int x2)] := hl
  refine k_Q (fun Q hQ => ?_)
  have hq := hf
  rw [f_X4_seen] at hq
  refine lv_aload_n hx hb dX4_seen_0 rfl (lv_at hl 0 rfl) ?_
  refine va_get (D := D) (ci := 4) (v := .ref (ad 23)) (C := RX4) (T := TX4) (N := 39) hx hb hts kin_X4_seen_X4 hown hK hP 0 rfl rfl 23 (by decide) (hts _ kw_X4_seen__fieldLink_RX4_74_ActHouseModel_holds_I_) (fun _ h9 => h9) rfl dX4_seen_1 ?_
  refine lv_bipush (v := 24) hx hb dX4_seen_4 (by decide) ?_
  refine lv_iload_n hx hb dX4_seen_6 rfl (lv_at hl 1 rfl) ?_
  refine lv_imul hx hb dX4_seen_7 ?_
  refine lv_iload_n hx hb dX4_seen_8 rfl (lv_at hl 2 rfl) ?_
  refine lv_iadd hx hb dX4_seen_9 ?_
  obtain ⟨b1, hq⟩ := k_if hq
  refine va_iald hx hb hK hP 22 0 (f := (M0.2.1 23)) rfl rfl (k_in b1.1 b1.2) dX4_seen_10 ?_
  refine lv_iconst (v := 2) hx hb dX4_seen_11 (by decide) ?_
  refine lv_icmp_ne (tgt := 29) hx hb dX4_seen_12 (by decide) (fun c2 => ?_) (fun c2 => ?_)
  · skip
    rw [if_neg c2] at hq
    refine lv_aload_n hx hb dX4_seen_29 rfl (lv_at hl 0 rfl) ?_
    refine va_get (D := D) (ci := 4) (v := .ref (ad 1)) (C := RX4) (T := TX4) (N := 39) hx hb hts kin_X4_seen_X4 hown hK hP 0 rfl rfl 1 (by decide) (hts _ kw_X4_seen__fieldLink_RX4_9_ActHouseModel_cells_I_) (fun _ h9 => h9) rfl dX4_seen_30 ?_
    refine lv_iload_n hx hb dX4_seen_33 rfl (lv_at hl 2 rfl) ?_
    obtain ⟨b3, hq⟩ := k_if hq
    refine va_iald hx hb hK hP 1 0 (f := (M0.2.1 1)) rfl rfl (k_in b3.1 b3.2) dX4_seen_34 ?_
    obtain ⟨e2, e3⟩ := k_so hq
    subst hQ
    have hP : va_P D vwCl (mW cI cZ h ad M0) _ := hP
    have hD : va_D A (mW cI cZ h ad M0) := hD
    refine W.widen (k := 0) (n := 0) (by decide) (by decide) ?_
    have hgE := congrArg (fun X : MS => X.2.2) e3
    have hgE : M0.2.2 = M'.2.2 := hgE
    exact W.iret (v := (M0.2.1 1) x2.toNatClampNeg) hx hb hr (fun t ht hW => ⟨⟨(M0.2.1 1) x2.toNatClampNeg, (mW cI cZ h ad M0, [(cI, .int), (cZ, .boolean)]), rfl, ⟨e2, (congrArg (fun X : MS => ((mW cI cZ h ad X, [(cI, .int), (cZ, .boolean)]) : va_W × List (ClassId × FieldType))) e3), by omega⟩, ⟨by rw [ht]; exact hP, va_K.moved hW.alike hK, hD⟩⟩, hS.F ht⟩) hS.2.2 dX4_seen_35
  · skip
    rw [if_pos c2] at hq
    refine lv_aload_n hx hb dX4_seen_15 rfl (lv_at hl 0 rfl) ?_
    refine va_get (D := D) (ci := 4) (v := .ref (ad 24)) (C := RX4) (T := TX4) (N := 39) hx hb hts kin_X4_seen_X4 hown hK hP 0 rfl rfl 24 (by decide) (hts _ kw_X4_seen__fieldLink_RX4_77_ActHouseModel_writes_I_) (fun _ h9 => h9) rfl dX4_seen_16 ?_
    refine lv_bipush (v := 24) hx hb dX4_seen_19 (by decide) ?_
    refine lv_iload_n hx hb dX4_seen_21 rfl (lv_at hl 1 rfl) ?_
    refine lv_imul hx hb dX4_seen_22 ?_
    refine lv_iload_n hx hb dX4_seen_23 rfl (lv_at hl 2 rfl) ?_
    refine lv_iadd hx hb dX4_seen_24 ?_
    refine va_iald hx hb hK hP 23 0 (f := (M0.2.1 24)) rfl rfl (k_in b1.1 b1.2) dX4_seen_25 ?_
    refine lv_goto (tgt := 35) hx hb dX4_seen_26 (by decide) ?_
    obtain ⟨e2, e3⟩ := k_so hq
    subst hQ
    have hP : va_P D vwCl (mW cI cZ h ad M0) _ := hP
    have hD : va_D A (mW cI cZ h ad M0) := hD
    refine W.widen (k := 0) (n := 0) (by decide) (by decide) ?_
    have hgE := congrArg (fun X : MS => X.2.2) e3
    have hgE : M0.2.2 = M'.2.2 := hgE
    exact W.iret (v := (M0.2.1 24) ((24 * x1) + x2).toNatClampNeg) hx hb hr (fun t ht hW => ⟨⟨(M0.2.1 24) ((24 * x1) + x2).toNatClampNeg, (mW cI cZ h ad M0, [(cI, .int), (cZ, .boolean)]), rfl, ⟨e2, (congrArg (fun X : MS => ((mW cI cZ h ad X, [(cI, .int), (cZ, .boolean)]) : va_W × List (ClassId × FieldType))) e3), by omega⟩, ⟨by rw [ht]; exact hP, va_K.moved hW.alike hK, hD⟩⟩, hS.F ht⟩) hS.2.2 dX4_seen_35
set_option maxRecDepth 100000 in
theorem kw_X4_canDo__fieldLink_RX4_16_ActHouseModel_floors_I_ : (.fieldLink RX4 16 "ActHouseModel" "floors" "[I" : Cond) ∈ wsX4_canDo := by decide +kernel
set_option maxRecDepth 100000 in
theorem kin_X4_canDo_X4 : ∀ w ∈ u_ws RX4 TX4 39, w ∈ wsX4_canDo := by decide +kernel
def f_X4_canDo_9  (v1 : Int32) (v3 : Int32)  (M : MS) : Option (Int32 × MS) := (k_bind (f_X4_isFree v1 v3 (0 : Int32) M) fun r2 M2 => (if r2 &&& 1 = r2 then some (r2, M2) else none))
def f_X4_canDo (x1 : Int32) (x2 : Int32) (x3 : Int32) (x4 : Int32) (M0 : MS) : Option (Int32 × MS) := (if x2 = 0 then f_X4_canDo_9  x1 x3 M0 else (if x2 = 4 then f_X4_canDo_9  x1 x3 M0 else (if x2 = 3 then (k_bind (f_X4_isFree x1 x3 (1 : Int32) M0) fun r11 M11 => (if r11 &&& 1 = r11 then some (r11, M11) else none)) else (if x2 = 6 then (if 50 ≤ x4 then some ((1 : Int32), M0) else (k_bind (f_X4_least x3 M0) fun r8 M8 => (if 0 ≤ x3.toInt ∧ x3.toInt < 8 then (if ((r8 + x4) - 50) < ((M8.2.1 3) x3.toNatClampNeg) then some ((0 : Int32), M8) else some ((1 : Int32), M8)) else none))) else some ((1 : Int32), M0)))))
set_option maxHeartbeats 4000000 in
set_option maxRecDepth 100000 in
theorem c_X4_canDo {l : Launch} {D : va_G} {sz : Nat} {cI cZ : ClassId} {h : Nat} {ad : Nat → Nat} {M0 M' : MS} {x1 x2 x3 x4 r' : Int32} (hf : f_X4_canDo x1 x2 x3 x4 M0 = some (r', M')) : Met l yX4_canDo wsX4_canDo ({ frames := 2, cells := 0, slots := 0, locals := 49 }) (va_Pc [.ref h, .int x1, .int x2, .int x3, .int x4] (k_Pre D [(cI, .int), (cZ, .boolean)] (mW cI cZ h ad M0) sz)) (va_Qi (fun (r0 : Int32) (u : va_W × List (ClassId × FieldType)) => r0 = r' ∧ u = (mW cI cZ h ad M', [(cI, .int), (cZ, .boolean)]) ∧ M'.2.2 = M0.2.2) (k_B D (va_A (mW cI cZ h ad M0) sz)) (va_A (mW cI cZ h ad M0) sz)) (0) (0) (va_A (mW cI cZ h ad M0) sz) := by
  refine Met.ofW (cc := cX4_canDo) (maxL := 5) (ret := (some .boolean)) (by decide) rfl ?_
  intro p e s m args below meth c s₁ B hml hv
  obtain ⟨rfl, hsz, hP, hK, hD0⟩ := hv
  have hx := B.exec
  have hb := B.bytes
  have hr := B.returns
  have hts := atoms_spec (ws := wsX4_canDo) B.pre
  have hown : s.vm.findClass RX4 = some m.cls := findClass_of_methodNamed B.named
  have hlocks := B.notSynchronized
  subst hsz
  have hD := hD0.self (sz := s.heap.size)
  generalize hAe : va_A (mW cI cZ h ad M0) s.heap.size = A at hD ⊢
  have hA : ∀ q : Nat, s.heap.size ≤ q → A q := fun q h => by rw [← hAe]; exact Or.inr h
  have hS : va_S A s.heap s.heap [] := va_S.rf
  have hl := lv_entry ([.ref h, .int x1, .int x2, .int x3, .int x4]) (n := 5) (Nat.le_of_ble_eq_true rfl)
  rw [lg_entry_eq]
  generalize (lg_sl ([.ref h, .int x1, .int x2, .int x3, .int x4]) ++ List.replicate (5 - (lg_sl ([.ref h, .int x1, .int x2, .int x3, .int x4])).length) Slot.unset).toArray = ls at hl ⊢
  have hl : lv_has ls 5 [(0, .ref h), (1, .int x1), (2, .int x2), (3, .int x3), (4, .int x4)] := hl
  refine k_Q (fun Q hQ => ?_)
  have B9 : ∀ (v1 : Int32) (v3 : Int32)  (M : MS)  (H : Heap) (locs : List Loc) (ls : Array Slot), f_X4_canDo_9 v1 v3 M = some (r', M') → M.2.2 = M0.2.2 → va_P D vwCl (mW cI cZ h ad M) H → va_D A (mW cI cZ h ad M) → va_S A s.heap H locs → lv_has ls 5 [(0, .ref h), (1, .int v1), (3, .int v3)] → W p l e (headSpec wsX4_canDo ({ frames := 2, cells := 0, slots := 0, locals := 49 })).room s m ([.ref h, .int x1, .int x2, .int x3, .int x4] : List Value).toArray below meth c H locs (0) (0) Q (F0 m 9 ls []) := by
    intro v1 v3  M  H locs ls hq hg hP hD hS hl
    rw [f_X4_canDo_9] at hq
    refine lv_aload_n hx hb dX4_canDo_9 rfl (lv_at hl 0 rfl) ?_
    refine lv_iload_n hx hb dX4_canDo_10 rfl (lv_at hl 1 rfl) ?_
    refine lv_iload_n hx hb dX4_canDo_11 rfl (lv_at hl 2 rfl) ?_
    refine lv_iconst (v := 0) hx hb dX4_canDo_12 (by decide) ?_
    obtain ⟨q2, M2, h2, hq⟩ := k_bd hq
    have hFc := k_free hD hS hA
    refine va_calli (va_runV (As := [.int v1, .int v3, .int 0]) (rest := []) ⟨hx, hb, hml, hown, hts⟩ (c_X4_isFree (l := l) (D := D) (cI := cI) (cZ := cZ) (h := h) (ad := ad)  (hf := h2)) (cwV 3 hts gX4_canDo_X4_isFree rfl rfl rfl (by decide +kernel) ⟨Nat.le_of_ble_eq_true rfl, Nat.le_of_ble_eq_true rfl⟩) ⟨k_blind, va_recv hK hP (ci := 4) (q0 := 0) rfl rfl, fun U hU hW => ⟨rfl, k_pre hU hW hP hK hD⟩⟩ rfl rfl hl.1 rfl (lv_room (Nat.le_of_ble_eq_true rfl)) dX4_canDo_13 ⟨by decide, by decide⟩) hS (fun q _ h => hFc q h) hFc (fun r2 u t H1 locs ht hvm hw hB hz1 hk1 hS => ?_)
    obtain ⟨rfl, rfl, hg2⟩ := hw
    have hg2 : M2.2.2 = M.2.2 := hg2
    refine W.widen (k := 0) (n := 0) (Nat.le_refl _) (Nat.le_refl _) ?_
    obtain ⟨hP1, hK1, hD1⟩ := hB
    rw [ht] at hP1
    have hP := hP1
    have hD := k_weak hD1 hFc
    generalize H1 = H at hP hS ⊢
    have hP : va_P D vwCl (mW cI cZ h ad M2) _ := hP
    have hD : va_D A (mW cI cZ h ad M2) := hD
    obtain ⟨b3, hq⟩ := k_if hq
    obtain ⟨e2, e3⟩ := k_so hq
    subst hQ
    have hP : va_P D vwCl (mW cI cZ h ad M2) _ := hP
    have hD : va_D A (mW cI cZ h ad M2) := hD
    refine W.widen (k := 0) (n := 0) (by decide) (by decide) ?_
    have hgE := congrArg (fun X : MS => X.2.2) e3
    have hgE : M2.2.2 = M'.2.2 := hgE
    exact W.zret (v := r2) hx hb hr (congrArg Value.int b3) (fun t ht hW => ⟨⟨r2, (mW cI cZ h ad M2, [(cI, .int), (cZ, .boolean)]), rfl, ⟨e2, (congrArg (fun X : MS => ((mW cI cZ h ad X, [(cI, .int), (cZ, .boolean)]) : va_W × List (ClassId × FieldType))) e3), by omega⟩, ⟨by rw [ht]; exact hP, va_K.moved hW.alike hK, hD⟩⟩, hS.F ht⟩) hS.2.2 dX4_canDo_16
  have hq := hf
  rw [f_X4_canDo] at hq
  refine lv_iload_n hx hb dX4_canDo_0 rfl (lv_at hl 2 rfl) ?_
  refine lv_if_eq (tgt := 9) hx hb dX4_canDo_1 (by decide) (fun c1 => ?_) (fun c1 => ?_)
  · skip
    rw [if_pos c1] at hq
    exact B9  x1 x3 M0  _ _ _ hq (by show M0.2.2 = M0.2.2; omega) hP hD hS (lv_sub hl [0, 1, 3] rfl)
  · skip
    rw [if_neg c1] at hq
    refine lv_iload_n hx hb dX4_canDo_4 rfl (lv_at hl 2 rfl) ?_
    refine lv_iconst (v := 4) hx hb dX4_canDo_5 (by decide) ?_
    refine lv_icmp_ne (tgt := 17) hx hb dX4_canDo_6 (by decide) (fun c4 => ?_) (fun c4 => ?_)
    · skip
      rw [if_neg c4] at hq
      refine lv_iload_n hx hb dX4_canDo_17 rfl (lv_at hl 2 rfl) ?_
      refine lv_iconst (v := 3) hx hb dX4_canDo_18 (by decide) ?_
      refine lv_icmp_ne (tgt := 30) hx hb dX4_canDo_19 (by decide) (fun c5 => ?_) (fun c5 => ?_)
      · skip
        rw [if_neg c5] at hq
        refine lv_iload_n hx hb dX4_canDo_30 rfl (lv_at hl 2 rfl) ?_
        refine lv_bipush (v := 6) hx hb dX4_canDo_31 (by decide) ?_
        refine lv_icmp_ne (tgt := 63) hx hb dX4_canDo_33 (by decide) (fun c6 => ?_) (fun c6 => ?_)
        · skip
          rw [if_neg c6] at hq
          refine lv_iconst (v := 1) hx hb dX4_canDo_63 (by decide) ?_
          refine lv_goto (tgt := 68) hx hb dX4_canDo_64 (by decide) ?_
          obtain ⟨e2, e3⟩ := k_so hq
          subst hQ
          have hP : va_P D vwCl (mW cI cZ h ad M0) _ := hP
          have hD : va_D A (mW cI cZ h ad M0) := hD
          refine W.widen (k := 0) (n := 0) (by decide) (by decide) ?_
          have hgE := congrArg (fun X : MS => X.2.2) e3
          have hgE : M0.2.2 = M'.2.2 := hgE
          exact W.zret (v := 1) hx hb hr (by decide) (fun t ht hW => ⟨⟨1, (mW cI cZ h ad M0, [(cI, .int), (cZ, .boolean)]), rfl, ⟨e2, (congrArg (fun X : MS => ((mW cI cZ h ad X, [(cI, .int), (cZ, .boolean)]) : va_W × List (ClassId × FieldType))) e3), by omega⟩, ⟨by rw [ht]; exact hP, va_K.moved hW.alike hK, hD⟩⟩, hS.F ht⟩) hS.2.2 dX4_canDo_68
        · skip
          rw [if_pos c6] at hq
          refine lv_iload hx hb dX4_canDo_36 (lv_at hl 4 rfl) ?_
          refine lv_bipush (v := 50) hx hb dX4_canDo_38 (by decide) ?_
          refine lv_icmp_ge (tgt := 63) hx hb dX4_canDo_40 (by decide) (fun c7 => ?_) (fun c7 => ?_)
          · skip
            rw [if_pos c7] at hq
            refine lv_iconst (v := 1) hx hb dX4_canDo_63 (by decide) ?_
            refine lv_goto (tgt := 68) hx hb dX4_canDo_64 (by decide) ?_
            obtain ⟨e2, e3⟩ := k_so hq
            subst hQ
            have hP : va_P D vwCl (mW cI cZ h ad M0) _ := hP
            have hD : va_D A (mW cI cZ h ad M0) := hD
            refine W.widen (k := 0) (n := 0) (by decide) (by decide) ?_
            have hgE := congrArg (fun X : MS => X.2.2) e3
            have hgE : M0.2.2 = M'.2.2 := hgE
            exact W.zret (v := 1) hx hb hr (by decide) (fun t ht hW => ⟨⟨1, (mW cI cZ h ad M0, [(cI, .int), (cZ, .boolean)]), rfl, ⟨e2, (congrArg (fun X : MS => ((mW cI cZ h ad X, [(cI, .int), (cZ, .boolean)]) : va_W × List (ClassId × FieldType))) e3), by omega⟩, ⟨by rw [ht]; exact hP, va_K.moved hW.alike hK, hD⟩⟩, hS.F ht⟩) hS.2.2 dX4_canDo_68
          · skip
            rw [if_neg c7] at hq
            refine lv_aload_n hx hb dX4_canDo_43 rfl (lv_at hl 0 rfl) ?_
            refine lv_iload_n hx hb dX4_canDo_44 rfl (lv_at hl 3 rfl) ?_
            obtain ⟨q8, M8, h8, hq⟩ := k_bd hq
            have hFc := k_free hD hS hA
            refine va_calli (va_runV (As := [.int x3]) (rest := []) ⟨hx, hb, hml, hown, hts⟩ (c_X4_least (l := l) (D := D) (cI := cI) (cZ := cZ) (h := h) (ad := ad)  (hf := h8)) (cwV 1 hts gX4_canDo_X4_least rfl rfl rfl (by decide +kernel) ⟨Nat.le_of_ble_eq_true rfl, Nat.le_of_ble_eq_true rfl⟩) ⟨k_blind, va_recv hK hP (ci := 4) (q0 := 0) rfl rfl, fun U hU hW => ⟨rfl, k_pre hU hW hP hK hD⟩⟩ rfl rfl hl.1 rfl (lv_room (Nat.le_of_ble_eq_true rfl)) dX4_canDo_45 ⟨by decide, by decide⟩) hS (fun q _ h => hFc q h) hFc (fun r8 u t H1 locs ht hvm hw hB hz1 hk1 hS => ?_)
            obtain ⟨rfl, rfl, hg8⟩ := hw
            have hg8 : M8.2.2 = M0.2.2 := hg8
            refine W.widen (k := 0) (n := 0) (Nat.le_refl _) (Nat.le_refl _) ?_
            obtain ⟨hP1, hK1, hD1⟩ := hB
            rw [ht] at hP1
            have hP := hP1
            have hD := k_weak hD1 hFc
            generalize H1 = H at hP hS ⊢
            have hP : va_P D vwCl (mW cI cZ h ad M8) _ := hP
            have hD : va_D A (mW cI cZ h ad M8) := hD
            refine lv_iload hx hb dX4_canDo_48 (lv_at hl 4 rfl) ?_
            refine lv_iadd hx hb dX4_canDo_50 ?_
            refine lv_bipush (v := 50) hx hb dX4_canDo_51 (by decide) ?_
            refine lv_isub hx hb dX4_canDo_53 ?_
            refine lv_aload_n hx hb dX4_canDo_54 rfl (lv_at hl 0 rfl) ?_
            refine va_get (D := D) (ci := 4) (v := .ref (ad 3)) (C := RX4) (T := TX4) (N := 39) hx hb hts kin_X4_canDo_X4 hown hK hP 0 rfl rfl 3 (by decide) (hts _ kw_X4_canDo__fieldLink_RX4_16_ActHouseModel_floors_I_) (fun _ h9 => h9) rfl dX4_canDo_55 ?_
            refine lv_iload_n hx hb dX4_canDo_58 rfl (lv_at hl 3 rfl) ?_
            obtain ⟨b9, hq⟩ := k_if hq
            refine va_iald hx hb hK hP 3 0 (f := (M8.2.1 3)) rfl rfl (k_in b9.1 b9.2) dX4_canDo_59 ?_
            refine lv_icmp_lt (tgt := 67) hx hb dX4_canDo_60 (by decide) (fun c10 => ?_) (fun c10 => ?_)
            · skip
              rw [if_pos c10] at hq
              refine lv_iconst (v := 0) hx hb dX4_canDo_67 (by decide) ?_
              obtain ⟨e2, e3⟩ := k_so hq
              subst hQ
              have hP : va_P D vwCl (mW cI cZ h ad M8) _ := hP
              have hD : va_D A (mW cI cZ h ad M8) := hD
              refine W.widen (k := 0) (n := 0) (by decide) (by decide) ?_
              have hgE := congrArg (fun X : MS => X.2.2) e3
              have hgE : M8.2.2 = M'.2.2 := hgE
              exact W.zret (v := 0) hx hb hr (by decide) (fun t ht hW => ⟨⟨0, (mW cI cZ h ad M8, [(cI, .int), (cZ, .boolean)]), rfl, ⟨e2, (congrArg (fun X : MS => ((mW cI cZ h ad X, [(cI, .int), (cZ, .boolean)]) : va_W × List (ClassId × FieldType))) e3), by omega⟩, ⟨by rw [ht]; exact hP, va_K.moved hW.alike hK, hD⟩⟩, hS.F ht⟩) hS.2.2 dX4_canDo_68
            · skip
              rw [if_neg c10] at hq
              refine lv_iconst (v := 1) hx hb dX4_canDo_63 (by decide) ?_
              refine lv_goto (tgt := 68) hx hb dX4_canDo_64 (by decide) ?_
              obtain ⟨e2, e3⟩ := k_so hq
              subst hQ
              have hP : va_P D vwCl (mW cI cZ h ad M8) _ := hP
              have hD : va_D A (mW cI cZ h ad M8) := hD
              refine W.widen (k := 0) (n := 0) (by decide) (by decide) ?_
              have hgE := congrArg (fun X : MS => X.2.2) e3
              have hgE : M8.2.2 = M'.2.2 := hgE
              exact W.zret (v := 1) hx hb hr (by decide) (fun t ht hW => ⟨⟨1, (mW cI cZ h ad M8, [(cI, .int), (cZ, .boolean)]), rfl, ⟨e2, (congrArg (fun X : MS => ((mW cI cZ h ad X, [(cI, .int), (cZ, .boolean)]) : va_W × List (ClassId × FieldType))) e3), by omega⟩, ⟨by rw [ht]; exact hP, va_K.moved hW.alike hK, hD⟩⟩, hS.F ht⟩) hS.2.2 dX4_canDo_68
      · skip
        rw [if_pos c5] at hq
        refine lv_aload_n hx hb dX4_canDo_22 rfl (lv_at hl 0 rfl) ?_
        refine lv_iload_n hx hb dX4_canDo_23 rfl (lv_at hl 1 rfl) ?_
        refine lv_iload_n hx hb dX4_canDo_24 rfl (lv_at hl 3 rfl) ?_
        refine lv_iconst (v := 1) hx hb dX4_canDo_25 (by decide) ?_
        obtain ⟨q11, M11, h11, hq⟩ := k_bd hq
        have hFc := k_free hD hS hA
        refine va_calli (va_runV (As := [.int x1, .int x3, .int 1]) (rest := []) ⟨hx, hb, hml, hown, hts⟩ (c_X4_isFree (l := l) (D := D) (cI := cI) (cZ := cZ) (h := h) (ad := ad)  (hf := h11)) (cwV 3 hts gX4_canDo_X4_isFree rfl rfl rfl (by decide +kernel) ⟨Nat.le_of_ble_eq_true rfl, Nat.le_of_ble_eq_true rfl⟩) ⟨k_blind, va_recv hK hP (ci := 4) (q0 := 0) rfl rfl, fun U hU hW => ⟨rfl, k_pre hU hW hP hK hD⟩⟩ rfl rfl hl.1 rfl (lv_room (Nat.le_of_ble_eq_true rfl)) dX4_canDo_26 ⟨by decide, by decide⟩) hS (fun q _ h => hFc q h) hFc (fun r11 u t H1 locs ht hvm hw hB hz1 hk1 hS => ?_)
        obtain ⟨rfl, rfl, hg11⟩ := hw
        have hg11 : M11.2.2 = M0.2.2 := hg11
        refine W.widen (k := 0) (n := 0) (Nat.le_refl _) (Nat.le_refl _) ?_
        obtain ⟨hP1, hK1, hD1⟩ := hB
        rw [ht] at hP1
        have hP := hP1
        have hD := k_weak hD1 hFc
        generalize H1 = H at hP hS ⊢
        have hP : va_P D vwCl (mW cI cZ h ad M11) _ := hP
        have hD : va_D A (mW cI cZ h ad M11) := hD
        obtain ⟨b12, hq⟩ := k_if hq
        obtain ⟨e2, e3⟩ := k_so hq
        subst hQ
        have hP : va_P D vwCl (mW cI cZ h ad M11) _ := hP
        have hD : va_D A (mW cI cZ h ad M11) := hD
        refine W.widen (k := 0) (n := 0) (by decide) (by decide) ?_
        have hgE := congrArg (fun X : MS => X.2.2) e3
        have hgE : M11.2.2 = M'.2.2 := hgE
        exact W.zret (v := r11) hx hb hr (congrArg Value.int b12) (fun t ht hW => ⟨⟨r11, (mW cI cZ h ad M11, [(cI, .int), (cZ, .boolean)]), rfl, ⟨e2, (congrArg (fun X : MS => ((mW cI cZ h ad X, [(cI, .int), (cZ, .boolean)]) : va_W × List (ClassId × FieldType))) e3), by omega⟩, ⟨by rw [ht]; exact hP, va_K.moved hW.alike hK, hD⟩⟩, hS.F ht⟩) hS.2.2 dX4_canDo_29
    · skip
      rw [if_pos c4] at hq
      exact B9  x1 x3 M0  _ _ _ hq (by show M0.2.2 = M0.2.2; omega) hP hD hS (lv_sub hl [0, 1, 3] rfl)
