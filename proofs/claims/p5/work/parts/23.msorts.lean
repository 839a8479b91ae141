theorem k_dec (x : Int32) : x + Int32.ofInt (-1) = x - 1 := by
  rw [Int32.sub_eq_add_neg]
  rfl
/-- the first n places of a row are numbers below m of acts in the state x, no two alike -/
def mOrd (sa od : Nat → Int32) (x : Int) (n m : Int) : Prop := (∀ j : Nat, (j : Int) < n → 0 ≤ (od j).toInt ∧ (od j).toInt < m ∧ (sa (od j).toNatClampNeg).toInt = x) ∧ ∀ j k : Nat, (j : Int) < n → (k : Int) < n → (od j).toInt = (od k).toInt → j = k
theorem mOrd_0 {sa od : Nat → Int32} {x n : Int} (h : n ≤ 0) (m : Int) : mOrd sa od x n m := ⟨fun j hj => absurd hj (by omega), fun j k hj => absurd hj (by omega)⟩
theorem mOrd_le {sa od : Nat → Int32} {x n m m2 : Int} (h : mOrd sa od x n m) (hm : m ≤ m2) : mOrd sa od x n m2 := ⟨fun j hj => by have := h.1 j hj; omega, h.2⟩
/-- in the midst of an insertion: the places but t hold the numbers of before -/
def mIns (sa od : Nat → Int32) (x : Int) (n t m : Int) : Prop := (∀ j : Nat, (j : Int) ≤ n → (j : Int) ≠ t → 0 ≤ (od j).toInt ∧ (od j).toInt < m ∧ (sa (od j).toNatClampNeg).toInt = x) ∧ ∀ j k : Nat, (j : Int) ≤ n → (k : Int) ≤ n → (j : Int) ≠ t → (k : Int) ≠ t → (od j).toInt = (od k).toInt → j = k
theorem mIns_0 {sa od : Nat → Int32} {x n m : Int} (h : mOrd sa od x n m) : mIns sa od x n n m := ⟨fun j h1 h2 => h.1 j (by omega), fun j k h1 h2 h3 h4 => h.2 j k (by omega) (by omega)⟩
theorem mIns_s {sa od : Nat → Int32} {x n t m : Int} {a b : Nat} (h : mIns sa od x n t m) (ha : (a : Int) = t) (hb : (b : Int) = t - 1) (ht : t ≤ n) : mIns sa (upd od a (od b)) x n (t - 1) m := by
  refine ⟨fun j h1 h2 => ?_, fun j k h1 h2 h3 h4 h5 => ?_⟩
  · by_cases e : j = a
    · subst e; rw [pk_us]; exact h.1 b (by omega) (by omega)
    · rw [pk_un e]; exact h.1 j h1 (by omega)
  · by_cases e : j = a
    · by_cases e2 : k = a
      · omega
      · subst e; rw [pk_us, pk_un e2] at h5
        have := h.2 b k (by omega) (by omega) (by omega) (by omega) h5
        omega
    · by_cases e2 : k = a
      · subst e2; rw [pk_us, pk_un e] at h5
        have := h.2 j b (by omega) (by omega) (by omega) (by omega) h5
        omega
      · rw [pk_un e, pk_un e2] at h5
        exact h.2 j k (by omega) (by omega) (by omega) (by omega) h5
theorem mIns_e {sa od : Nat → Int32} {x n t m : Int} {a : Nat} {v : Int32} (h : mIns sa od x n t m) (ha : (a : Int) = t) (hv : v.toInt = m) (h0 : 0 ≤ m) (hs : (sa v.toNatClampNeg).toInt = x) : mOrd sa (upd od a v) x (n + 1) (m + 1) := by
  refine ⟨fun j h1 => ?_, fun j k h1 h2 h5 => ?_⟩
  · by_cases e : j = a
    · subst e; rw [pk_us]; exact ⟨by omega, by omega, hs⟩
    · rw [pk_un e]; have := h.1 j (by omega) (by omega); omega
  · by_cases e : j = a
    · by_cases e2 : k = a
      · omega
      · subst e; rw [pk_us, pk_un e2] at h5
        have := h.1 k (by omega) (by omega)
        omega
    · by_cases e2 : k = a
      · subst e2; rw [pk_us, pk_un e] at h5
        have := h.1 j (by omega) (by omega)
        omega
      · rw [pk_un e, pk_un e2] at h5
        exact h.2 j k (by omega) (by omega) (by omega) (by omega) h5
set_option maxRecDepth 100000 in
theorem kw_X4_sorts__fieldLink_RX4_111_ActHouseModel_acts_I_ : (.fieldLink RX4 111 "ActHouseModel" "acts" "I" : Cond) ∈ wsX4_sorts := by decide +kernel
set_option maxRecDepth 100000 in
theorem kin_X4_sorts_X4 : ∀ w ∈ u_ws RX4 TX4 39, w ∈ wsX4_sorts := by decide +kernel
set_option maxRecDepth 100000 in
theorem kw_X4_sorts__fieldLink_RX4_37_ActHouseModel_state_I_ : (.fieldLink RX4 37 "ActHouseModel" "state" "[I" : Cond) ∈ wsX4_sorts := by decide +kernel
set_option maxRecDepth 100000 in
theorem kw_X4_sorts__fieldLink_RX4_98_ActHouseModel_order_I_ : (.fieldLink RX4 98 "ActHouseModel" "order" "[I" : Cond) ∈ wsX4_sorts := by decide +kernel
set_option maxHeartbeats 4000000 in
set_option maxRecDepth 100000 in
theorem c_X4_sorts {l : Launch} {D : va_G} {sz : Nat} {h : Nat} {mcells : Nat} {mcounters : Nat} {mfloors : Nat} {mlimits : Nat} {mlongs : Nat} {msteps : Nat} {mprogram : Nat} {mkind : Nat} {mrank : Nat} {mstate : Nat} {mactLong : Nat} {mactSteps : Nat} {mat : Nat} {mregister : Nat} {misHeld : Nat} {mdoneIn : Nat} {mundone : Nat} {mby : Nat} {mbegunIn : Nat} {misVoid : Nat} {misAgain : Nat} {mholds : Nat} {mwrites : Nat} {mgives : Nat} {mbelow : Nat} {mqueued : Nat} {mqueuedMany : Nat} {mdone : Nat} {mlog : Nat} {morder : Nat} {misReached : Nat} {mqueue : Nat} {nw : Int32} {ac : Int32} {dn : Int32} {en : Int32} {kp : Int32} {rg : Int32} {fa : Int32} {x : Int32} {sa : Nat → Int32} {rk : Nat → Int32} {od : Nat → Int32} {cI : ClassId} (hac : 0 ≤ ac.toInt) (hac2 : ac.toInt ≤ 80) : Met l yX4_sorts wsX4_sorts ({ frames := 1, cells := 0, slots := 0, locals := 22 }) (va_Pc [.ref h, .int x] (k_Pre D [(cI, .int)] [(h, .inr (4, [.int nw, .ref mcells, .ref mcounters, .ref mfloors, .ref mlimits, .ref mlongs, .ref msteps, .int ac, .ref mprogram, .ref mkind, .ref mrank, .ref mstate, .ref mactLong, .ref mactSteps, .ref mat, .ref mregister, .ref misHeld, .ref mdoneIn, .ref mundone, .ref mby, .ref mbegunIn, .ref misVoid, .ref misAgain, .ref mholds, .ref mwrites, .ref mgives, .ref mbelow, .ref mqueued, .ref mqueuedMany, .int dn, .ref mdone, .int en, .int kp, .ref mlog, .int rg, .int fa, .ref morder, .ref misReached, .ref mqueue])), (mstate, .inl (cI, 80, .inl sa)), (mrank, .inl (cI, 80, .inl rk)), (morder, .inl (cI, 80, .inl od))] sz)) (va_Qi (fun (r : Int32) (u : va_W × List (ClassId × FieldType)) => (∃ (od2 : Nat → Int32), u = ([(h, .inr (4, [.int nw, .ref mcells, .ref mcounters, .ref mfloors, .ref mlimits, .ref mlongs, .ref msteps, .int ac, .ref mprogram, .ref mkind, .ref mrank, .ref mstate, .ref mactLong, .ref mactSteps, .ref mat, .ref mregister, .ref misHeld, .ref mdoneIn, .ref mundone, .ref mby, .ref mbegunIn, .ref misVoid, .ref misAgain, .ref mholds, .ref mwrites, .ref mgives, .ref mbelow, .ref mqueued, .ref mqueuedMany, .int dn, .ref mdone, .int en, .int kp, .ref mlog, .int rg, .int fa, .ref morder, .ref misReached, .ref mqueue])), (mstate, .inl (cI, 80, .inl sa)), (mrank, .inl (cI, 80, .inl rk)), (morder, .inl (cI, 80, .inl od2))], [(cI, .int)]) ∧ 0 ≤ r.toInt ∧ r.toInt ≤ ac.toInt ∧ mOrd sa od2 x.toInt r.toInt ac.toInt)) (k_B D (va_A [(h, .inr (4, [.int nw, .ref mcells, .ref mcounters, .ref mfloors, .ref mlimits, .ref mlongs, .ref msteps, .int ac, .ref mprogram, .ref mkind, .ref mrank, .ref mstate, .ref mactLong, .ref mactSteps, .ref mat, .ref mregister, .ref misHeld, .ref mdoneIn, .ref mundone, .ref mby, .ref mbegunIn, .ref misVoid, .ref misAgain, .ref mholds, .ref mwrites, .ref mgives, .ref mbelow, .ref mqueued, .ref mqueuedMany, .int dn, .ref mdone, .int en, .int kp, .ref mlog, .int rg, .int fa, .ref morder, .ref misReached, .ref mqueue])), (mstate, .inl (cI, 80, .inl sa)), (mrank, .inl (cI, 80, .inl rk)), (morder, .inl (cI, 80, .inl od))] sz)) (va_A [(h, .inr (4, [.int nw, .ref mcells, .ref mcounters, .ref mfloors, .ref mlimits, .ref mlongs, .ref msteps, .int ac, .ref mprogram, .ref mkind, .ref mrank, .ref mstate, .ref mactLong, .ref mactSteps, .ref mat, .ref mregister, .ref misHeld, .ref mdoneIn, .ref mundone, .ref mby, .ref mbegunIn, .ref misVoid, .ref misAgain, .ref mholds, .ref mwrites, .ref mgives, .ref mbelow, .ref mqueued, .ref mqueuedMany, .int dn, .ref mdone, .int en, .int kp, .ref mlog, .int rg, .int fa, .ref morder, .ref misReached, .ref mqueue])), (mstate, .inl (cI, 80, .inl sa)), (mrank, .inl (cI, 80, .inl rk)), (morder, .inl (cI, 80, .inl od))] sz)) (0) (0) (va_A [(h, .inr (4, [.int nw, .ref mcells, .ref mcounters, .ref mfloors, .ref mlimits, .ref mlongs, .ref msteps, .int ac, .ref mprogram, .ref mkind, .ref mrank, .ref mstate, .ref mactLong, .ref mactSteps, .ref mat, .ref mregister, .ref misHeld, .ref mdoneIn, .ref mundone, .ref mby, .ref mbegunIn, .ref misVoid, .ref misAgain, .ref mholds, .ref mwrites, .ref mgives, .ref mbelow, .ref mqueued, .ref mqueuedMany, .int dn, .ref mdone, .int en, .int kp, .ref mlog, .int rg, .int fa, .ref morder, .ref misReached, .ref mqueue])), (mstate, .inl (cI, 80, .inl sa)), (mrank, .inl (cI, 80, .inl rk)), (morder, .inl (cI, 80, .inl od))] sz) := by
  refine Met.ofW (cc := cX4_sorts) (maxL := 5) (ret := (some .int)) (by decide) rfl ?_
  intro p e s m args below meth c s₁ B hml hv
  obtain ⟨rfl, hsz, hP, hK, hD0⟩ := hv
  have hx := B.exec
  have hb := B.bytes
  have hr := B.returns
  have hts := atoms_spec (ws := wsX4_sorts) B.pre
  have hown : s.vm.findClass RX4 = some m.cls := findClass_of_methodNamed B.named
  have hlocks := B.notSynchronized
  subst hsz
  have hD := hD0.self (sz := s.heap.size)
  generalize hAe : va_A [(h, .inr (4, [.int nw, .ref mcells, .ref mcounters, .ref mfloors, .ref mlimits, .ref mlongs, .ref msteps, .int ac, .ref mprogram, .ref mkind, .ref mrank, .ref mstate, .ref mactLong, .ref mactSteps, .ref mat, .ref mregister, .ref misHeld, .ref mdoneIn, .ref mundone, .ref mby, .ref mbegunIn, .ref misVoid, .ref misAgain, .ref mholds, .ref mwrites, .ref mgives, .ref mbelow, .ref mqueued, .ref mqueuedMany, .int dn, .ref mdone, .int en, .int kp, .ref mlog, .int rg, .int fa, .ref morder, .ref misReached, .ref mqueue])), (mstate, .inl (cI, 80, .inl sa)), (mrank, .inl (cI, 80, .inl rk)), (morder, .inl (cI, 80, .inl od))] s.heap.size = A at hD ⊢
  have hA : ∀ q : Nat, s.heap.size ≤ q → A q := fun q h => by rw [← hAe]; exact Or.inr h
  have hS : va_S A s.heap s.heap [] := va_S.rf
  have hl := lv_entry ([.ref h, .int x]) (n := 5) (Nat.le_of_ble_eq_true rfl)
  rw [lg_entry_eq]
  generalize (lg_sl ([.ref h, .int x]) ++ List.replicate (5 - (lg_sl ([.ref h, .int x])).length) Slot.unset).toArray = ls at hl ⊢
  have hl : lv_has ls 5 [(0, .ref h), (1, .int x)] := hl
  refine k_Q (fun Q hQ => ?_)
  refine lv_iconst (v := 0) hx hb dX4_sorts_0 (by decide) ?_
  refine lv_istore_n (lv' := [(2, .int 0), (0, .ref h), (1, .int x)]) hx hb dX4_sorts_1 rfl hl (by decide) rfl (fun ls hl => ?_)
  refine lv_iconst (v := 0) hx hb dX4_sorts_2 (by decide) ?_
  refine lv_istore_n (lv' := [(3, .int 0), (2, .int 0), (0, .ref h), (1, .int x)]) hx hb dX4_sorts_3 rfl hl (by decide) rfl (fun ls hl => ?_)
  have loop4 : ∀ (k : Nat) (i : Int32) (tt : Int32) (od : Nat → Int32) (H : Heap) (locs : List Loc) (ls : Array Slot), (0 ≤ i.toInt) → (i.toInt + k = ac.toInt) → (0 ≤ tt.toInt) → (tt.toInt ≤ i.toInt) → (mOrd sa od x.toInt tt.toInt i.toInt) → va_P D vwCl [(h, .inr (4, [.int nw, .ref mcells, .ref mcounters, .ref mfloors, .ref mlimits, .ref mlongs, .ref msteps, .int ac, .ref mprogram, .ref mkind, .ref mrank, .ref mstate, .ref mactLong, .ref mactSteps, .ref mat, .ref mregister, .ref misHeld, .ref mdoneIn, .ref mundone, .ref mby, .ref mbegunIn, .ref misVoid, .ref misAgain, .ref mholds, .ref mwrites, .ref mgives, .ref mbelow, .ref mqueued, .ref mqueuedMany, .int dn, .ref mdone, .int en, .int kp, .ref mlog, .int rg, .int fa, .ref morder, .ref misReached, .ref mqueue])), (mstate, .inl (cI, 80, .inl sa)), (mrank, .inl (cI, 80, .inl rk)), (morder, .inl (cI, 80, .inl od))] H → va_D A [(h, .inr (4, [.int nw, .ref mcells, .ref mcounters, .ref mfloors, .ref mlimits, .ref mlongs, .ref msteps, .int ac, .ref mprogram, .ref mkind, .ref mrank, .ref mstate, .ref mactLong, .ref mactSteps, .ref mat, .ref mregister, .ref misHeld, .ref mdoneIn, .ref mundone, .ref mby, .ref mbegunIn, .ref misVoid, .ref misAgain, .ref mholds, .ref mwrites, .ref mgives, .ref mbelow, .ref mqueued, .ref mqueuedMany, .int dn, .ref mdone, .int en, .int kp, .ref mlog, .int rg, .int fa, .ref morder, .ref misReached, .ref mqueue])), (mstate, .inl (cI, 80, .inl sa)), (mrank, .inl (cI, 80, .inl rk)), (morder, .inl (cI, 80, .inl od))] → va_S A s.heap H locs → lv_has ls 5 [(3, .int i), (2, .int tt), (0, .ref h), (1, .int x)] → W p l e (headSpec wsX4_sorts ({ frames := 1, cells := 0, slots := 0, locals := 22 })).room s m ([.ref h, .int x] : List Value).toArray below meth c H locs (0) (0) Q (F0 m 4 ls []) := by
    intro k4
    induction k4 with
    | zero =>
      intro i tt od H locs ls h0 hi ht ht2 ho hP hD hS hl
      refine lv_iload_n hx hb dX4_sorts_4 rfl (lv_at hl 0 rfl) ?_
      refine lv_aload_n hx hb dX4_sorts_5 rfl (lv_at hl 2 rfl) ?_
      refine va_get (D := D) (ci := 4) (v := .int ac) (C := RX4) (T := TX4) (N := 39) hx hb hts kin_X4_sorts_X4 hown hK hP 0 rfl rfl 7 (by decide) (hts _ kw_X4_sorts__fieldLink_RX4_111_ActHouseModel_acts_I_) (fun _ h9 => h9) rfl dX4_sorts_6 ?_
      refine lv_icmp_ge (tgt := 89) hx hb dX4_sorts_9 (by decide) (fun c1 => ?_) (fun c1 => ?_)
      · skip
        have c1 := k_le c1
        refine lv_iload_n hx hb dX4_sorts_89 rfl (lv_at hl 1 rfl) ?_
        subst hQ
        have hP := hP.sub (ws' := [(h, .inr (4, [.int nw, .ref mcells, .ref mcounters, .ref mfloors, .ref mlimits, .ref mlongs, .ref msteps, .int ac, .ref mprogram, .ref mkind, .ref mrank, .ref mstate, .ref mactLong, .ref mactSteps, .ref mat, .ref mregister, .ref misHeld, .ref mdoneIn, .ref mundone, .ref mby, .ref mbegunIn, .ref misVoid, .ref misAgain, .ref mholds, .ref mwrites, .ref mgives, .ref mbelow, .ref mqueued, .ref mqueuedMany, .int dn, .ref mdone, .int en, .int kp, .ref mlog, .int rg, .int fa, .ref morder, .ref misReached, .ref mqueue])), (mstate, .inl (cI, 80, .inl sa)), (mrank, .inl (cI, 80, .inl rk)), (morder, .inl (cI, 80, .inl od))]) [0, 1, 2, 3] rfl
        have hD := hD.sub (ws' := [(h, .inr (4, [.int nw, .ref mcells, .ref mcounters, .ref mfloors, .ref mlimits, .ref mlongs, .ref msteps, .int ac, .ref mprogram, .ref mkind, .ref mrank, .ref mstate, .ref mactLong, .ref mactSteps, .ref mat, .ref mregister, .ref misHeld, .ref mdoneIn, .ref mundone, .ref mby, .ref mbegunIn, .ref misVoid, .ref misAgain, .ref mholds, .ref mwrites, .ref mgives, .ref mbelow, .ref mqueued, .ref mqueuedMany, .int dn, .ref mdone, .int en, .int kp, .ref mlog, .int rg, .int fa, .ref morder, .ref misReached, .ref mqueue])), (mstate, .inl (cI, 80, .inl sa)), (mrank, .inl (cI, 80, .inl rk)), (morder, .inl (cI, 80, .inl od))]) [0, 1, 2, 3] (by decide) rfl
        have hK := hK.sub (tys' := [(cI, .int)]) [0] rfl
        refine W.widen (k := 0) (n := 0) (by decide) (by decide) ?_
        exact W.iret (v := tt) hx hb hr (fun t ht hW => ⟨⟨tt, ([(h, .inr (4, [.int nw, .ref mcells, .ref mcounters, .ref mfloors, .ref mlimits, .ref mlongs, .ref msteps, .int ac, .ref mprogram, .ref mkind, .ref mrank, .ref mstate, .ref mactLong, .ref mactSteps, .ref mat, .ref mregister, .ref misHeld, .ref mdoneIn, .ref mundone, .ref mby, .ref mbegunIn, .ref misVoid, .ref misAgain, .ref mholds, .ref mwrites, .ref mgives, .ref mbelow, .ref mqueued, .ref mqueuedMany, .int dn, .ref mdone, .int en, .int kp, .ref mlog, .int rg, .int fa, .ref morder, .ref misReached, .ref mqueue])), (mstate, .inl (cI, 80, .inl sa)), (mrank, .inl (cI, 80, .inl rk)), (morder, .inl (cI, 80, .inl od))], [(cI, .int)]), rfl, ⟨od, rfl, (by omega), (by omega), (by exact mOrd_le ho (by omega))⟩, ⟨by rw [ht]; exact hP, va_K.moved hW.alike hK, hD⟩⟩, hS.F ht⟩) hS.2.2 dX4_sorts_90
      · skip
        have c1 := k_nle c1
        exfalso; omega
    | succ k4 ih4 =>
      intro i tt od H locs ls h0 hi ht ht2 ho hP hD hS hl
      refine lv_iload_n hx hb dX4_sorts_4 rfl (lv_at hl 0 rfl) ?_
      refine lv_aload_n hx hb dX4_sorts_5 rfl (lv_at hl 2 rfl) ?_
      refine va_get (D := D) (ci := 4) (v := .int ac) (C := RX4) (T := TX4) (N := 39) hx hb hts kin_X4_sorts_X4 hown hK hP 0 rfl rfl 7 (by decide) (hts _ kw_X4_sorts__fieldLink_RX4_111_ActHouseModel_acts_I_) (fun _ h9 => h9) rfl dX4_sorts_6 ?_
      refine lv_icmp_ge (tgt := 89) hx hb dX4_sorts_9 (by decide) (fun c2 => ?_) (fun c2 => ?_)
      · skip
        have c2 := k_le c2
        refine lv_iload_n hx hb dX4_sorts_89 rfl (lv_at hl 1 rfl) ?_
        subst hQ
        have hP := hP.sub (ws' := [(h, .inr (4, [.int nw, .ref mcells, .ref mcounters, .ref mfloors, .ref mlimits, .ref mlongs, .ref msteps, .int ac, .ref mprogram, .ref mkind, .ref mrank, .ref mstate, .ref mactLong, .ref mactSteps, .ref mat, .ref mregister, .ref misHeld, .ref mdoneIn, .ref mundone, .ref mby, .ref mbegunIn, .ref misVoid, .ref misAgain, .ref mholds, .ref mwrites, .ref mgives, .ref mbelow, .ref mqueued, .ref mqueuedMany, .int dn, .ref mdone, .int en, .int kp, .ref mlog, .int rg, .int fa, .ref morder, .ref misReached, .ref mqueue])), (mstate, .inl (cI, 80, .inl sa)), (mrank, .inl (cI, 80, .inl rk)), (morder, .inl (cI, 80, .inl od))]) [0, 1, 2, 3] rfl
        have hD := hD.sub (ws' := [(h, .inr (4, [.int nw, .ref mcells, .ref mcounters, .ref mfloors, .ref mlimits, .ref mlongs, .ref msteps, .int ac, .ref mprogram, .ref mkind, .ref mrank, .ref mstate, .ref mactLong, .ref mactSteps, .ref mat, .ref mregister, .ref misHeld, .ref mdoneIn, .ref mundone, .ref mby, .ref mbegunIn, .ref misVoid, .ref misAgain, .ref mholds, .ref mwrites, .ref mgives, .ref mbelow, .ref mqueued, .ref mqueuedMany, .int dn, .ref mdone, .int en, .int kp, .ref mlog, .int rg, .int fa, .ref morder, .ref misReached, .ref mqueue])), (mstate, .inl (cI, 80, .inl sa)), (mrank, .inl (cI, 80, .inl rk)), (morder, .inl (cI, 80, .inl od))]) [0, 1, 2, 3] (by decide) rfl
        have hK := hK.sub (tys' := [(cI, .int)]) [0] rfl
        refine W.widen (k := 0) (n := 0) (by decide) (by decide) ?_
        exact W.iret (v := tt) hx hb hr (fun t ht hW => ⟨⟨tt, ([(h, .inr (4, [.int nw, .ref mcells, .ref mcounters, .ref mfloors, .ref mlimits, .ref mlongs, .ref msteps, .int ac, .ref mprogram, .ref mkind, .ref mrank, .ref mstate, .ref mactLong, .ref mactSteps, .ref mat, .ref mregister, .ref misHeld, .ref mdoneIn, .ref mundone, .ref mby, .ref mbegunIn, .ref misVoid, .ref misAgain, .ref mholds, .ref mwrites, .ref mgives, .ref mbelow, .ref mqueued, .ref mqueuedMany, .int dn, .ref mdone, .int en, .int kp, .ref mlog, .int rg, .int fa, .ref morder, .ref misReached, .ref mqueue])), (mstate, .inl (cI, 80, .inl sa)), (mrank, .inl (cI, 80, .inl rk)), (morder, .inl (cI, 80, .inl od))], [(cI, .int)]), rfl, ⟨od, rfl, (by omega), (by omega), (by exact mOrd_le ho (by omega))⟩, ⟨by rw [ht]; exact hP, va_K.moved hW.alike hK, hD⟩⟩, hS.F ht⟩) hS.2.2 dX4_sorts_90
      · skip
        have c2 := k_nle c2
        refine lv_aload_n hx hb dX4_sorts_12 rfl (lv_at hl 2 rfl) ?_
        refine va_get (D := D) (ci := 4) (v := .ref mstate) (C := RX4) (T := TX4) (N := 39) hx hb hts kin_X4_sorts_X4 hown hK hP 0 rfl rfl 11 (by decide) (hts _ kw_X4_sorts__fieldLink_RX4_37_ActHouseModel_state_I_) (fun _ h9 => h9) rfl dX4_sorts_13 ?_
        refine lv_iload_n hx hb dX4_sorts_16 rfl (lv_at hl 0 rfl) ?_
        have hi17 : vp_in i 80 := (k_in (by omega) (by omega))
        refine va_iald hx hb hK hP 1 0 rfl rfl hi17 dX4_sorts_17 ?_
        refine lv_iload_n hx hb dX4_sorts_18 rfl (lv_at hl 3 rfl) ?_
        refine lv_icmp_eq (tgt := 25) hx hb dX4_sorts_19 (by decide) (fun c3 => ?_) (fun c3 => ?_)
        · skip
          have c3 := k_eq c3
          refine lv_iload_n hx hb dX4_sorts_25 rfl (lv_at hl 1 rfl) ?_
          refine lv_istore (lv' := [(4, .int tt), (3, .int i), (2, .int tt), (0, .ref h), (1, .int x)]) hx hb dX4_sorts_26 hl (by decide) rfl (fun ls hl => ?_)
          have loop28 : ∀ (k : Nat) (k_ : Int32) (od : Nat → Int32) (H : Heap) (locs : List Loc) (ls : Array Slot), (0 ≤ k_.toInt) → (k_.toInt ≤ tt.toInt) → (k_.toInt = k) → (mIns sa od x.toInt tt.toInt k_.toInt i.toInt) → va_P D vwCl [(h, .inr (4, [.int nw, .ref mcells, .ref mcounters, .ref mfloors, .ref mlimits, .ref mlongs, .ref msteps, .int ac, .ref mprogram, .ref mkind, .ref mrank, .ref mstate, .ref mactLong, .ref mactSteps, .ref mat, .ref mregister, .ref misHeld, .ref mdoneIn, .ref mundone, .ref mby, .ref mbegunIn, .ref misVoid, .ref misAgain, .ref mholds, .ref mwrites, .ref mgives, .ref mbelow, .ref mqueued, .ref mqueuedMany, .int dn, .ref mdone, .int en, .int kp, .ref mlog, .int rg, .int fa, .ref morder, .ref misReached, .ref mqueue])), (mstate, .inl (cI, 80, .inl sa)), (mrank, .inl (cI, 80, .inl rk)), (morder, .inl (cI, 80, .inl od))] H → va_D A [(h, .inr (4, [.int nw, .ref mcells, .ref mcounters, .ref mfloors, .ref mlimits, .ref mlongs, .ref msteps, .int ac, .ref mprogram, .ref mkind, .ref mrank, .ref mstate, .ref mactLong, .ref mactSteps, .ref mat, .ref mregister, .ref misHeld, .ref mdoneIn, .ref mundone, .ref mby, .ref mbegunIn, .ref misVoid, .ref misAgain, .ref mholds, .ref mwrites, .ref mgives, .ref mbelow, .ref mqueued, .ref mqueuedMany, .int dn, .ref mdone, .int en, .int kp, .ref mlog, .int rg, .int fa, .ref morder, .ref misReached, .ref mqueue])), (mstate, .inl (cI, 80, .inl sa)), (mrank, .inl (cI, 80, .inl rk)), (morder, .inl (cI, 80, .inl od))] → va_S A s.heap H locs → lv_has ls 5 [(4, .int k_), (3, .int i), (2, .int tt), (0, .ref h), (1, .int x)] → W p l e (headSpec wsX4_sorts ({ frames := 1, cells := 0, slots := 0, locals := 22 })).room s m ([.ref h, .int x] : List Value).toArray below meth c H locs (0) (0) Q (F0 m 28 ls []) := by
            intro k28
            induction k28 with
            | zero =>
              intro k_ od H locs ls k0 k1 kk km hP hD hS hl
              refine lv_iload hx hb dX4_sorts_28 (lv_at hl 0 rfl) ?_
              refine lv_if_le (tgt := 72) hx hb dX4_sorts_30 (by decide) (fun c4 => ?_) (fun c4 => ?_)
              · skip
                have c4 := k_le c4
                have hl0 : (0 : Int32).toInt = 0 := by decide
                refine lv_aload_n hx hb dX4_sorts_72 rfl (lv_at hl 3 rfl) ?_
                refine va_get (D := D) (ci := 4) (v := .ref morder) (C := RX4) (T := TX4) (N := 39) hx hb hts kin_X4_sorts_X4 hown hK hP 0 rfl rfl 36 (by decide) (hts _ kw_X4_sorts__fieldLink_RX4_98_ActHouseModel_order_I_) (fun _ h9 => h9) rfl dX4_sorts_73 ?_
                refine lv_iload hx hb dX4_sorts_76 (lv_at hl 0 rfl) ?_
                refine lv_iload_n hx hb dX4_sorts_78 rfl (lv_at hl 1 rfl) ?_
                have hi79 : vp_in k_ 80 := (k_in (by omega) (by omega))
                refine va_iast hx hb hK hP hD hS 3 0 rfl rfl hi79 dX4_sorts_79 (fun H locs hP hD hS => ?_)
                have hP : va_P D vwCl [(h, .inr (4, [.int nw, .ref mcells, .ref mcounters, .ref mfloors, .ref mlimits, .ref mlongs, .ref msteps, .int ac, .ref mprogram, .ref mkind, .ref mrank, .ref mstate, .ref mactLong, .ref mactSteps, .ref mat, .ref mregister, .ref misHeld, .ref mdoneIn, .ref mundone, .ref mby, .ref mbegunIn, .ref misVoid, .ref misAgain, .ref mholds, .ref mwrites, .ref mgives, .ref mbelow, .ref mqueued, .ref mqueuedMany, .int dn, .ref mdone, .int en, .int kp, .ref mlog, .int rg, .int fa, .ref morder, .ref misReached, .ref mqueue])), (mstate, .inl (cI, 80, .inl sa)), (mrank, .inl (cI, 80, .inl rk)), (morder, .inl (cI, 80, .inl (upd od k_.toNatClampNeg i)))] H := hP
                have hD : va_D A [(h, .inr (4, [.int nw, .ref mcells, .ref mcounters, .ref mfloors, .ref mlimits, .ref mlongs, .ref msteps, .int ac, .ref mprogram, .ref mkind, .ref mrank, .ref mstate, .ref mactLong, .ref mactSteps, .ref mat, .ref mregister, .ref misHeld, .ref mdoneIn, .ref mundone, .ref mby, .ref mbegunIn, .ref misVoid, .ref misAgain, .ref mholds, .ref mwrites, .ref mgives, .ref mbelow, .ref mqueued, .ref mqueuedMany, .int dn, .ref mdone, .int en, .int kp, .ref mlog, .int rg, .int fa, .ref morder, .ref misReached, .ref mqueue])), (mstate, .inl (cI, 80, .inl sa)), (mrank, .inl (cI, 80, .inl rk)), (morder, .inl (cI, 80, .inl (upd od k_.toNatClampNeg i)))] := hD
                refine lv_iinc (v := tt + 1) (lv' := [(2, .int (tt + 1)), (4, .int k_), (3, .int i), (0, .ref h), (1, .int x)]) hx hb dX4_sorts_80 hl (k := 2) rfl (by rfl) (by decide) rfl (fun ls hl => ?_)
                refine lv_iinc (v := i + 1) (lv' := [(3, .int (i + 1)), (2, .int (tt + 1)), (4, .int k_), (0, .ref h), (1, .int x)]) hx hb dX4_sorts_83 hl (k := 2) rfl (by rfl) (by decide) rfl (fun ls hl => ?_)
                refine lv_goto (tgt := 4) hx hb dX4_sorts_86 (by decide) ?_
                have e1 := k_inc (x := i) (by omega)
                try have e3 := k_inc (x := tt) (by omega)
                exact ih4 (i + 1) (tt + 1) (upd od k_.toNatClampNeg i) _ _ _ (by omega) (by omega) (by omega) (by omega) (by first | (rw [e1]; exact mOrd_le ho (by omega)) | (have e3 := k_inc (x := tt) (by omega); rw [e1, e3]; exact mIns_e (a := k_.toNatClampNeg) km (by simp only [k_cl]; omega) rfl (by omega) (by omega))) (hP.sub [0, 1, 2, 3] rfl) (hD.sub [0, 1, 2, 3] (by decide) rfl) hS (lv_sub hl [0, 1, 3, 4] rfl)
              · skip
                have c4 := k_nle c4
                have hl0 : (0 : Int32).toInt = 0 := by decide
                exfalso; omega
            | succ k28 ih28 =>
              intro k_ od H locs ls k0 k1 kk km hP hD hS hl
              refine lv_iload hx hb dX4_sorts_28 (lv_at hl 0 rfl) ?_
              refine lv_if_le (tgt := 72) hx hb dX4_sorts_30 (by decide) (fun c5 => ?_) (fun c5 => ?_)
              · skip
                have c5 := k_le c5
                have hl0 : (0 : Int32).toInt = 0 := by decide
                refine lv_aload_n hx hb dX4_sorts_72 rfl (lv_at hl 3 rfl) ?_
                refine va_get (D := D) (ci := 4) (v := .ref morder) (C := RX4) (T := TX4) (N := 39) hx hb hts kin_X4_sorts_X4 hown hK hP 0 rfl rfl 36 (by decide) (hts _ kw_X4_sorts__fieldLink_RX4_98_ActHouseModel_order_I_) (fun _ h9 => h9) rfl dX4_sorts_73 ?_
                refine lv_iload hx hb dX4_sorts_76 (lv_at hl 0 rfl) ?_
                refine lv_iload_n hx hb dX4_sorts_78 rfl (lv_at hl 1 rfl) ?_
                have hi79 : vp_in k_ 80 := (k_in (by omega) (by omega))
                refine va_iast hx hb hK hP hD hS 3 0 rfl rfl hi79 dX4_sorts_79 (fun H locs hP hD hS => ?_)
                have hP : va_P D vwCl [(h, .inr (4, [.int nw, .ref mcells, .ref mcounters, .ref mfloors, .ref mlimits, .ref mlongs, .ref msteps, .int ac, .ref mprogram, .ref mkind, .ref mrank, .ref mstate, .ref mactLong, .ref mactSteps, .ref mat, .ref mregister, .ref misHeld, .ref mdoneIn, .ref mundone, .ref mby, .ref mbegunIn, .ref misVoid, .ref misAgain, .ref mholds, .ref mwrites, .ref mgives, .ref mbelow, .ref mqueued, .ref mqueuedMany, .int dn, .ref mdone, .int en, .int kp, .ref mlog, .int rg, .int fa, .ref morder, .ref misReached, .ref mqueue])), (mstate, .inl (cI, 80, .inl sa)), (mrank, .inl (cI, 80, .inl rk)), (morder, .inl (cI, 80, .inl (upd od k_.toNatClampNeg i)))] H := hP
                have hD : va_D A [(h, .inr (4, [.int nw, .ref mcells, .ref mcounters, .ref mfloors, .ref mlimits, .ref mlongs, .ref msteps, .int ac, .ref mprogram, .ref mkind, .ref mrank, .ref mstate, .ref mactLong, .ref mactSteps, .ref mat, .ref mregister, .ref misHeld, .ref mdoneIn, .ref mundone, .ref mby, .ref mbegunIn, .ref misVoid, .ref misAgain, .ref mholds, .ref mwrites, .ref mgives, .ref mbelow, .ref mqueued, .ref mqueuedMany, .int dn, .ref mdone, .int en, .int kp, .ref mlog, .int rg, .int fa, .ref morder, .ref misReached, .ref mqueue])), (mstate, .inl (cI, 80, .inl sa)), (mrank, .inl (cI, 80, .inl rk)), (morder, .inl (cI, 80, .inl (upd od k_.toNatClampNeg i)))] := hD
                refine lv_iinc (v := tt + 1) (lv' := [(2, .int (tt + 1)), (4, .int k_), (3, .int i), (0, .ref h), (1, .int x)]) hx hb dX4_sorts_80 hl (k := 2) rfl (by rfl) (by decide) rfl (fun ls hl => ?_)
                refine lv_iinc (v := i + 1) (lv' := [(3, .int (i + 1)), (2, .int (tt + 1)), (4, .int k_), (0, .ref h), (1, .int x)]) hx hb dX4_sorts_83 hl (k := 2) rfl (by rfl) (by decide) rfl (fun ls hl => ?_)
                refine lv_goto (tgt := 4) hx hb dX4_sorts_86 (by decide) ?_
                have e1 := k_inc (x := i) (by omega)
                try have e3 := k_inc (x := tt) (by omega)
                exact ih4 (i + 1) (tt + 1) (upd od k_.toNatClampNeg i) _ _ _ (by omega) (by omega) (by omega) (by omega) (by first | (rw [e1]; exact mOrd_le ho (by omega)) | (have e3 := k_inc (x := tt) (by omega); rw [e1, e3]; exact mIns_e (a := k_.toNatClampNeg) km (by simp only [k_cl]; omega) rfl (by omega) (by omega))) (hP.sub [0, 1, 2, 3] rfl) (hD.sub [0, 1, 2, 3] (by decide) rfl) hS (lv_sub hl [0, 1, 3, 4] rfl)
              · skip
                have c5 := k_nle c5
                have hl0 : (0 : Int32).toInt = 0 := by decide
                refine lv_aload_n hx hb dX4_sorts_33 rfl (lv_at hl 3 rfl) ?_
                refine lv_iload_n hx hb dX4_sorts_34 rfl (lv_at hl 1 rfl) ?_
                refine lv_aload_n hx hb dX4_sorts_35 rfl (lv_at hl 3 rfl) ?_
                refine va_get (D := D) (ci := 4) (v := .ref morder) (C := RX4) (T := TX4) (N := 39) hx hb hts kin_X4_sorts_X4 hown hK hP 0 rfl rfl 36 (by decide) (hts _ kw_X4_sorts__fieldLink_RX4_98_ActHouseModel_order_I_) (fun _ h9 => h9) rfl dX4_sorts_36 ?_
                refine lv_iload hx hb dX4_sorts_39 (lv_at hl 0 rfl) ?_
                refine lv_iconst (v := 1) hx hb dX4_sorts_41 (by decide) ?_
                refine lv_isub hx hb dX4_sorts_42 ?_
                have hl1 : (1 : Int32).toInt = 1 := by decide
                have ef6 := k_sub (x := k_) (y := 1) (by omega) (by omega)
                have hi43 : vp_in (k_ - 1) 80 := (k_in (by omega) (by omega))
                refine va_iald hx hb hK hP 3 0 rfl rfl hi43 dX4_sorts_43 ?_
                have hPc := hP.sub (ws' := [(h, .inr (4, [.int nw, .ref mcells, .ref mcounters, .ref mfloors, .ref mlimits, .ref mlongs, .ref msteps, .int ac, .ref mprogram, .ref mkind, .ref mrank, .ref mstate, .ref mactLong, .ref mactSteps, .ref mat, .ref mregister, .ref misHeld, .ref mdoneIn, .ref mundone, .ref mby, .ref mbegunIn, .ref misVoid, .ref misAgain, .ref mholds, .ref mwrites, .ref mgives, .ref mbelow, .ref mqueued, .ref mqueuedMany, .int dn, .ref mdone, .int en, .int kp, .ref mlog, .int rg, .int fa, .ref morder, .ref misReached, .ref mqueue])), (mrank, .inl (cI, 80, .inl rk))]) [0, 2] rfl
                have hDc := hD.sub (ws' := [(h, .inr (4, [.int nw, .ref mcells, .ref mcounters, .ref mfloors, .ref mlimits, .ref mlongs, .ref msteps, .int ac, .ref mprogram, .ref mkind, .ref mrank, .ref mstate, .ref mactLong, .ref mactSteps, .ref mat, .ref mregister, .ref misHeld, .ref mdoneIn, .ref mundone, .ref mby, .ref mbegunIn, .ref misVoid, .ref misAgain, .ref mholds, .ref mwrites, .ref mgives, .ref mbelow, .ref mqueued, .ref mqueuedMany, .int dn, .ref mdone, .int en, .int kp, .ref mlog, .int rg, .int fa, .ref morder, .ref misReached, .ref mqueue])), (mrank, .inl (cI, 80, .inl rk))]) [0, 2] (by decide) rfl
                have hKc := hK.sub (tys' := [(cI, .int)]) [0] rfl
                have hFc := va_free (wc := [(h, .inr (4, [.int nw, .ref mcells, .ref mcounters, .ref mfloors, .ref mlimits, .ref mlongs, .ref msteps, .int ac, .ref mprogram, .ref mkind, .ref mrank, .ref mstate, .ref mactLong, .ref mactSteps, .ref mat, .ref mregister, .ref misHeld, .ref mdoneIn, .ref mundone, .ref mby, .ref mbegunIn, .ref misVoid, .ref misAgain, .ref mholds, .ref mwrites, .ref mgives, .ref mbelow, .ref mqueued, .ref mqueuedMany, .int dn, .ref mdone, .int en, .int kp, .ref mlog, .int rg, .int fa, .ref morder, .ref misReached, .ref mqueue])), (mrank, .inl (cI, 80, .inl rk))]) hD hS hA [0, 2] rfl
                refine va_calli (va_runV (As := [.int i, .int (od (k_ - 1).toNatClampNeg)]) (rest := []) ⟨hx, hb, hml, hown, hts⟩ (c_X4_isAhead (l := l) (D := D) (h := h) (mcells := mcells) (mcounters := mcounters) (mfloors := mfloors) (mlimits := mlimits) (mlongs := mlongs) (msteps := msteps) (mprogram := mprogram) (mkind := mkind) (mrank := mrank) (mstate := mstate) (mactLong := mactLong) (mactSteps := mactSteps) (mat := mat) (mregister := mregister) (misHeld := misHeld) (mdoneIn := mdoneIn) (mundone := mundone) (mby := mby) (mbegunIn := mbegunIn) (misVoid := misVoid) (misAgain := misAgain) (mholds := mholds) (mwrites := mwrites) (mgives := mgives) (mbelow := mbelow) (mqueued := mqueued) (mqueuedMany := mqueuedMany) (mdone := mdone) (mlog := mlog) (morder := morder) (misReached := misReached) (mqueue := mqueue) (nw := nw) (ac := ac) (dn := dn) (en := en) (kp := kp) (rg := rg) (fa := fa) (x := i) (y := (od (k_ - 1).toNatClampNeg)) (rk := rk) (cI := cI) (by omega) (by omega) (by have q := km.1 (k_ - 1).toNatClampNeg (by simp only [k_cl]; omega) (by simp only [k_cl]; omega); omega) (by have q := km.1 (k_ - 1).toNatClampNeg (by simp only [k_cl]; omega) (by simp only [k_cl]; omega); omega)) (cwV 2 hts gX4_sorts_X4_isAhead rfl rfl rfl (by decide +kernel) ⟨Nat.le_of_ble_eq_true rfl, Nat.le_of_ble_eq_true rfl⟩) ⟨k_blind, va_recv hKc hPc (ci := 4) (q0 := 0) rfl rfl, fun U hU hW => ⟨rfl, k_pre hU hW hPc hKc hDc⟩⟩ rfl rfl hl.1 rfl (lv_room (Nat.le_of_ble_eq_true rfl)) dX4_sorts_44 ⟨by decide, by decide⟩) hS (fun q _ h => hFc q h) hFc (fun r7 u t H1 locs ht hvm hw hB hz1 hk1 hS => ?_)
                refine W.widen (k := 0) (n := 0) (Nat.le_refl _) (Nat.le_refl _) ?_
                rcases hw with ⟨rfl, rfl, ha_7⟩ | ⟨rfl, rfl, ha_7⟩
                · skip
                  obtain ⟨hP1, hK1, hD1⟩ := hB
                  rw [ht] at hP1
                  have hK1 := va_K.moved hvm.symm hK1
                  obtain ⟨hP, hD⟩ := va_join (wr := [(mstate, .inl (cI, 80, .inl sa)), (morder, .inl (cI, 80, .inl od))]) (w1 := [(h, .inr (4, [.int nw, .ref mcells, .ref mcounters, .ref mfloors, .ref mlimits, .ref mlongs, .ref msteps, .int ac, .ref mprogram, .ref mkind, .ref mrank, .ref mstate, .ref mactLong, .ref mactSteps, .ref mat, .ref mregister, .ref misHeld, .ref mdoneIn, .ref mundone, .ref mby, .ref mbegunIn, .ref misVoid, .ref misAgain, .ref mholds, .ref mwrites, .ref mgives, .ref mbelow, .ref mqueued, .ref mqueuedMany, .int dn, .ref mdone, .int en, .int kp, .ref mlog, .int rg, .int fa, .ref morder, .ref misReached, .ref mqueue])), (mrank, .inl (cI, 80, .inl rk))]) hP hD [0, 2] [1, 3] rfl rfl (by decide) (by decide) hk1 hFc hP1 hD1
                  generalize H1 = H at hP hS ⊢
                  have hP : va_P D vwCl [(mstate, .inl (cI, 80, .inl sa)), (morder, .inl (cI, 80, .inl od)), (h, .inr (4, [.int nw, .ref mcells, .ref mcounters, .ref mfloors, .ref mlimits, .ref mlongs, .ref msteps, .int ac, .ref mprogram, .ref mkind, .ref mrank, .ref mstate, .ref mactLong, .ref mactSteps, .ref mat, .ref mregister, .ref misHeld, .ref mdoneIn, .ref mundone, .ref mby, .ref mbegunIn, .ref misVoid, .ref misAgain, .ref mholds, .ref mwrites, .ref mgives, .ref mbelow, .ref mqueued, .ref mqueuedMany, .int dn, .ref mdone, .int en, .int kp, .ref mlog, .int rg, .int fa, .ref morder, .ref misReached, .ref mqueue])), (mrank, .inl (cI, 80, .inl rk))] H := hP
                  have hD : va_D A [(mstate, .inl (cI, 80, .inl sa)), (morder, .inl (cI, 80, .inl od)), (h, .inr (4, [.int nw, .ref mcells, .ref mcounters, .ref mfloors, .ref mlimits, .ref mlongs, .ref msteps, .int ac, .ref mprogram, .ref mkind, .ref mrank, .ref mstate, .ref mactLong, .ref mactSteps, .ref mat, .ref mregister, .ref misHeld, .ref mdoneIn, .ref mundone, .ref mby, .ref mbegunIn, .ref misVoid, .ref misAgain, .ref mholds, .ref mwrites, .ref mgives, .ref mbelow, .ref mqueued, .ref mqueuedMany, .int dn, .ref mdone, .int en, .int kp, .ref mlog, .int rg, .int fa, .ref morder, .ref misReached, .ref mqueue])), (mrank, .inl (cI, 80, .inl rk))] := hD
                  refine lv_if_eq (tgt := 72) hx hb dX4_sorts_47 (by decide) (fun c8 => ?_) (fun c8 => ?_)
                  · skip
                    exact absurd c8 (by decide)
                  · skip
                    refine lv_aload_n hx hb dX4_sorts_50 rfl (lv_at hl 3 rfl) ?_
                    refine va_get (D := D) (ci := 4) (v := .ref morder) (C := RX4) (T := TX4) (N := 39) hx hb hts kin_X4_sorts_X4 hown hK hP 2 rfl rfl 36 (by decide) (hts _ kw_X4_sorts__fieldLink_RX4_98_ActHouseModel_order_I_) (fun _ h9 => h9) rfl dX4_sorts_51 ?_
                    refine lv_iload hx hb dX4_sorts_54 (lv_at hl 0 rfl) ?_
                    refine lv_aload_n hx hb dX4_sorts_56 rfl (lv_at hl 3 rfl) ?_
                    refine va_get (D := D) (ci := 4) (v := .ref morder) (C := RX4) (T := TX4) (N := 39) hx hb hts kin_X4_sorts_X4 hown hK hP 2 rfl rfl 36 (by decide) (hts _ kw_X4_sorts__fieldLink_RX4_98_ActHouseModel_order_I_) (fun _ h9 => h9) rfl dX4_sorts_57 ?_
                    refine lv_iload hx hb dX4_sorts_60 (lv_at hl 0 rfl) ?_
                    refine lv_iconst (v := 1) hx hb dX4_sorts_62 (by decide) ?_
                    refine lv_isub hx hb dX4_sorts_63 ?_
                    have hl1 : (1 : Int32).toInt = 1 := by decide
                    have ef9 := k_sub (x := k_) (y := 1) (by omega) (by omega)
                    have hi64 : vp_in (k_ - 1) 80 := (k_in (by omega) (by omega))
                    refine va_iald hx hb hK hP 1 0 rfl rfl hi64 dX4_sorts_64 ?_
                    have hi65 : vp_in k_ 80 := (k_in (by omega) (by omega))
                    refine va_iast hx hb hK hP hD hS 1 0 rfl rfl hi65 dX4_sorts_65 (fun H locs hP hD hS => ?_)
                    have hP : va_P D vwCl [(mstate, .inl (cI, 80, .inl sa)), (morder, .inl (cI, 80, .inl (upd od k_.toNatClampNeg (od (k_ - 1).toNatClampNeg)))), (h, .inr (4, [.int nw, .ref mcells, .ref mcounters, .ref mfloors, .ref mlimits, .ref mlongs, .ref msteps, .int ac, .ref mprogram, .ref mkind, .ref mrank, .ref mstate, .ref mactLong, .ref mactSteps, .ref mat, .ref mregister, .ref misHeld, .ref mdoneIn, .ref mundone, .ref mby, .ref mbegunIn, .ref misVoid, .ref misAgain, .ref mholds, .ref mwrites, .ref mgives, .ref mbelow, .ref mqueued, .ref mqueuedMany, .int dn, .ref mdone, .int en, .int kp, .ref mlog, .int rg, .int fa, .ref morder, .ref misReached, .ref mqueue])), (mrank, .inl (cI, 80, .inl rk))] H := hP
                    have hD : va_D A [(mstate, .inl (cI, 80, .inl sa)), (morder, .inl (cI, 80, .inl (upd od k_.toNatClampNeg (od (k_ - 1).toNatClampNeg)))), (h, .inr (4, [.int nw, .ref mcells, .ref mcounters, .ref mfloors, .ref mlimits, .ref mlongs, .ref msteps, .int ac, .ref mprogram, .ref mkind, .ref mrank, .ref mstate, .ref mactLong, .ref mactSteps, .ref mat, .ref mregister, .ref misHeld, .ref mdoneIn, .ref mundone, .ref mby, .ref mbegunIn, .ref misVoid, .ref misAgain, .ref mholds, .ref mwrites, .ref mgives, .ref mbelow, .ref mqueued, .ref mqueuedMany, .int dn, .ref mdone, .int en, .int kp, .ref mlog, .int rg, .int fa, .ref morder, .ref misReached, .ref mqueue])), (mrank, .inl (cI, 80, .inl rk))] := hD
                    refine lv_iinc (v := k_ - 1) (lv' := [(4, .int (k_ - 1)), (3, .int i), (2, .int tt), (0, .ref h), (1, .int x)]) hx hb dX4_sorts_66 hl (k := 0) rfl (by exact k_dec _) (by decide) rfl (fun ls hl => ?_)
                    refine lv_goto (tgt := 28) hx hb dX4_sorts_69 (by decide) ?_
                    have hl1 : (1 : Int32).toInt = 1 := by decide
                    have e2 := k_sub (x := k_) (y := 1) (by omega) (by omega)
                    rw [hl1] at e2
                    exact ih28 (k_ - 1) (upd od k_.toNatClampNeg (od (k_ - 1).toNatClampNeg)) _ _ _ (by omega) (by omega) (by omega) (by have q := mIns_s (a := k_.toNatClampNeg) (b := (k_ - 1).toNatClampNeg) km (by simp only [k_cl]; omega) (by simp only [k_cl]; omega) (by omega); rw [e2]; exact q) (hP.sub [2, 0, 3, 1] rfl) (hD.sub [2, 0, 3, 1] (by decide) rfl) hS (lv_sub hl [0, 1, 2, 3, 4] rfl)
                · skip
                  obtain ⟨hP1, hK1, hD1⟩ := hB
                  rw [ht] at hP1
                  have hK1 := va_K.moved hvm.symm hK1
                  obtain ⟨hP, hD⟩ := va_join (wr := [(mstate, .inl (cI, 80, .inl sa)), (morder, .inl (cI, 80, .inl od))]) (w1 := [(h, .inr (4, [.int nw, .ref mcells, .ref mcounters, .ref mfloors, .ref mlimits, .ref mlongs, .ref msteps, .int ac, .ref mprogram, .ref mkind, .ref mrank, .ref mstate, .ref mactLong, .ref mactSteps, .ref mat, .ref mregister, .ref misHeld, .ref mdoneIn, .ref mundone, .ref mby, .ref mbegunIn, .ref misVoid, .ref misAgain, .ref mholds, .ref mwrites, .ref mgives, .ref mbelow, .ref mqueued, .ref mqueuedMany, .int dn, .ref mdone, .int en, .int kp, .ref mlog, .int rg, .int fa, .ref morder, .ref misReached, .ref mqueue])), (mrank, .inl (cI, 80, .inl rk))]) hP hD [0, 2] [1, 3] rfl rfl (by decide) (by decide) hk1 hFc hP1 hD1
                  generalize H1 = H at hP hS ⊢
                  have hP : va_P D vwCl [(mstate, .inl (cI, 80, .inl sa)), (morder, .inl (cI, 80, .inl od)), (h, .inr (4, [.int nw, .ref mcells, .ref mcounters, .ref mfloors, .ref mlimits, .ref mlongs, .ref msteps, .int ac, .ref mprogram, .ref mkind, .ref mrank, .ref mstate, .ref mactLong, .ref mactSteps, .ref mat, .ref mregister, .ref misHeld, .ref mdoneIn, .ref mundone, .ref mby, .ref mbegunIn, .ref misVoid, .ref misAgain, .ref mholds, .ref mwrites, .ref mgives, .ref mbelow, .ref mqueued, .ref mqueuedMany, .int dn, .ref mdone, .int en, .int kp, .ref mlog, .int rg, .int fa, .ref morder, .ref misReached, .ref mqueue])), (mrank, .inl (cI, 80, .inl rk))] H := hP
                  have hD : va_D A [(mstate, .inl (cI, 80, .inl sa)), (morder, .inl (cI, 80, .inl od)), (h, .inr (4, [.int nw, .ref mcells, .ref mcounters, .ref mfloors, .ref mlimits, .ref mlongs, .ref msteps, .int ac, .ref mprogram, .ref mkind, .ref mrank, .ref mstate, .ref mactLong, .ref mactSteps, .ref mat, .ref mregister, .ref misHeld, .ref mdoneIn, .ref mundone, .ref mby, .ref mbegunIn, .ref misVoid, .ref misAgain, .ref mholds, .ref mwrites, .ref mgives, .ref mbelow, .ref mqueued, .ref mqueuedMany, .int dn, .ref mdone, .int en, .int kp, .ref mlog, .int rg, .int fa, .ref morder, .ref misReached, .ref mqueue])), (mrank, .inl (cI, 80, .inl rk))] := hD
                  refine lv_if_eq (tgt := 72) hx hb dX4_sorts_47 (by decide) (fun c10 => ?_) (fun c10 => ?_)
                  · skip
                    refine lv_aload_n hx hb dX4_sorts_72 rfl (lv_at hl 3 rfl) ?_
                    refine va_get (D := D) (ci := 4) (v := .ref morder) (C := RX4) (T := TX4) (N := 39) hx hb hts kin_X4_sorts_X4 hown hK hP 2 rfl rfl 36 (by decide) (hts _ kw_X4_sorts__fieldLink_RX4_98_ActHouseModel_order_I_) (fun _ h9 => h9) rfl dX4_sorts_73 ?_
                    refine lv_iload hx hb dX4_sorts_76 (lv_at hl 0 rfl) ?_
                    refine lv_iload_n hx hb dX4_sorts_78 rfl (lv_at hl 1 rfl) ?_
                    have hi79 : vp_in k_ 80 := (k_in (by omega) (by omega))
                    refine va_iast hx hb hK hP hD hS 1 0 rfl rfl hi79 dX4_sorts_79 (fun H locs hP hD hS => ?_)
                    have hP : va_P D vwCl [(mstate, .inl (cI, 80, .inl sa)), (morder, .inl (cI, 80, .inl (upd od k_.toNatClampNeg i))), (h, .inr (4, [.int nw, .ref mcells, .ref mcounters, .ref mfloors, .ref mlimits, .ref mlongs, .ref msteps, .int ac, .ref mprogram, .ref mkind, .ref mrank, .ref mstate, .ref mactLong, .ref mactSteps, .ref mat, .ref mregister, .ref misHeld, .ref mdoneIn, .ref mundone, .ref mby, .ref mbegunIn, .ref misVoid, .ref misAgain, .ref mholds, .ref mwrites, .ref mgives, .ref mbelow, .ref mqueued, .ref mqueuedMany, .int dn, .ref mdone, .int en, .int kp, .ref mlog, .int rg, .int fa, .ref morder, .ref misReached, .ref mqueue])), (mrank, .inl (cI, 80, .inl rk))] H := hP
                    have hD : va_D A [(mstate, .inl (cI, 80, .inl sa)), (morder, .inl (cI, 80, .inl (upd od k_.toNatClampNeg i))), (h, .inr (4, [.int nw, .ref mcells, .ref mcounters, .ref mfloors, .ref mlimits, .ref mlongs, .ref msteps, .int ac, .ref mprogram, .ref mkind, .ref mrank, .ref mstate, .ref mactLong, .ref mactSteps, .ref mat, .ref mregister, .ref misHeld, .ref mdoneIn, .ref mundone, .ref mby, .ref mbegunIn, .ref misVoid, .ref misAgain, .ref mholds, .ref mwrites, .ref mgives, .ref mbelow, .ref mqueued, .ref mqueuedMany, .int dn, .ref mdone, .int en, .int kp, .ref mlog, .int rg, .int fa, .ref morder, .ref misReached, .ref mqueue])), (mrank, .inl (cI, 80, .inl rk))] := hD
                    refine lv_iinc (v := tt + 1) (lv' := [(2, .int (tt + 1)), (4, .int k_), (3, .int i), (0, .ref h), (1, .int x)]) hx hb dX4_sorts_80 hl (k := 2) rfl (by rfl) (by decide) rfl (fun ls hl => ?_)
                    refine lv_iinc (v := i + 1) (lv' := [(3, .int (i + 1)), (2, .int (tt + 1)), (4, .int k_), (0, .ref h), (1, .int x)]) hx hb dX4_sorts_83 hl (k := 2) rfl (by rfl) (by decide) rfl (fun ls hl => ?_)
                    refine lv_goto (tgt := 4) hx hb dX4_sorts_86 (by decide) ?_
                    have e1 := k_inc (x := i) (by omega)
                    try have e3 := k_inc (x := tt) (by omega)
                    exact ih4 (i + 1) (tt + 1) (upd od k_.toNatClampNeg i) _ _ _ (by omega) (by omega) (by omega) (by omega) (by first | (rw [e1]; exact mOrd_le ho (by omega)) | (have e3 := k_inc (x := tt) (by omega); rw [e1, e3]; exact mIns_e (a := k_.toNatClampNeg) km (by simp only [k_cl]; omega) rfl (by omega) (by omega))) (hP.sub [2, 0, 3, 1] rfl) (hD.sub [2, 0, 3, 1] (by decide) rfl) hS (lv_sub hl [0, 1, 3, 4] rfl)
                  · skip
                    exact absurd c10 (by decide)
          exact loop28 tt.toInt.toNat tt od _ _ _ (by omega) (by omega) (by omega) (by exact mIns_0 ho) (hP.sub [0, 1, 2, 3] rfl) (hD.sub [0, 1, 2, 3] (by decide) rfl) hS (lv_sub hl [0, 1, 2, 3, 4] rfl)
        · skip
          have c3 := k_ne c3
          refine lv_goto (tgt := 83) hx hb dX4_sorts_22 (by decide) ?_
          refine lv_iinc (v := i + 1) (lv' := [(3, .int (i + 1)), (2, .int tt), (0, .ref h), (1, .int x)]) hx hb dX4_sorts_83 hl (k := 0) rfl (by rfl) (by decide) rfl (fun ls hl => ?_)
          refine lv_goto (tgt := 4) hx hb dX4_sorts_86 (by decide) ?_
          have e1 := k_inc (x := i) (by omega)
          try have e3 := k_inc (x := tt) (by omega)
          exact ih4 (i + 1) tt od _ _ _ (by omega) (by omega) (by omega) (by omega) (by first | (rw [e1]; exact mOrd_le ho (by omega)) | (have e3 := k_inc (x := tt) (by omega); rw [e1, e3]; exact mIns_e (a := k_.toNatClampNeg) km (by simp only [k_cl]; omega) rfl (by omega) (by omega))) (hP.sub [0, 1, 2, 3] rfl) (hD.sub [0, 1, 2, 3] (by decide) rfl) hS (lv_sub hl [0, 1, 2, 3] rfl)
  exact loop4 ac.toInt.toNat 0 0 od _ _ _ (by decide) (by rw [show (0 : Int32).toInt = 0 from by decide]; omega) (by decide) (by decide) (by exact mOrd_0 (by decide) _) (hP.sub [0, 1, 2, 3] rfl) (hD.sub [0, 1, 2, 3] (by decide) rfl) hS (lv_sub hl [0, 1, 2, 3] rfl)
