
/-- the start of a contract: the world ws, the array classes tys -/
def k_Pre (D : va_G) (tys : List (ClassId × FieldType)) (ws : va_W) (sz : Nat) : State → Prop := fun U => U.heap.size = sz ∧ va_P D vwCl ws U.heap ∧ va_K D vwCl tys U ∧ va_D (fun _ => True) ws
/-- its end: what came back -/
def k_B (D : va_G) (A : Nat → Prop) : va_W × List (ClassId × FieldType) → State → Prop := fun u t => va_P D vwCl u.1 t.heap ∧ va_K D vwCl u.2 t ∧ va_D A u.1
theorem k_blind {D : va_G} {tys : List (ClassId × FieldType)} {ws : va_W} {sz : Nat} {av : List Value} : FrameBlind (va_Pc av (k_Pre D tys ws sz)) := fun a U g mk q => by
  obtain ⟨q0, q1, qP, qK, qD⟩ := q
  exact ⟨q0, q1, qP, va_K.moved (u := U) (U := U.calling g mk a) (Vm.Alike.refl U.vm) qK, qD⟩
theorem k_pre {D : va_G} {tys : List (ClassId × FieldType)} {ws : va_W} {s U : State} {H : Heap} {A : Nat → Prop} (hU : U.heap = H) (hW : s.WarmedH U.vm) (hP : va_P D vwCl ws H) (hK : va_K D vwCl tys s) (hD : va_D A ws) : k_Pre D tys ws H.size U := ⟨by rw [hU], by rw [hU]; exact hP, va_K.moved hW.alike hK, hD.weaken (fun _ _ _ _ => trivial)⟩
theorem k_Q {p : Program} {l : Launch} {e : Env} {R : Room} {s : State} {m : MethodId} {args : Array Value} {below : List Frame} {meth : Method} {c : Code} {H : Heap} {locs : List Loc} {cells slots : Nat} {Q : State → Prop} {g : JFrame} (k : ∀ Q', Q' = Q → W p l e R s m args below meth c H locs cells slots Q' g) : W p l e R s m args below meth c H locs cells slots Q g := k Q rfl
theorem k_inc {x : Int32} (h : x.toInt < 2147483647) : (x + 1).toInt = x.toInt + 1 := by
  rw [Int32.toInt_add]
  have h0 := Int32.le_toInt x
  rw [show (1 : Int32).toInt = 1 from by decide]
  rw [Int.bmod_eq_of_le (by omega) (by omega)]
theorem k_add {x y : Int32} (h1 : -2147483648 ≤ x.toInt + y.toInt) (h2 : x.toInt + y.toInt ≤ 2147483647) : (x + y).toInt = x.toInt + y.toInt := by
  rw [Int32.toInt_add, Int.bmod_eq_of_le (by omega) (by omega)]
theorem k_sub {x y : Int32} (h1 : -2147483648 ≤ x.toInt - y.toInt) (h2 : x.toInt - y.toInt ≤ 2147483647) : (x - y).toInt = x.toInt - y.toInt := by
  rw [Int32.toInt_sub, Int.bmod_eq_of_le (by omega) (by omega)]
theorem k_mul {x y : Int32} {N : Int} (hy : y.toInt = N) (h1 : -2147483648 ≤ x.toInt * N) (h2 : x.toInt * N ≤ 2147483647) : (x * y).toInt = x.toInt * N := by
  rw [Int32.toInt_mul, hy, Int.bmod_eq_of_le (by omega) (by omega)]
theorem k_mul2 {x y : Int32} {N : Int} (hx : x.toInt = N) (h1 : -2147483648 ≤ N * y.toInt) (h2 : N * y.toInt ≤ 2147483647) : (x * y).toInt = N * y.toInt := by
  rw [Int32.toInt_mul, hx, Int.bmod_eq_of_le (by omega) (by omega)]
theorem k_cl (x : Int32) : x.toNatClampNeg = x.toInt.toNat := rfl
theorem k_one : (1 : Int32).toInt = 1 := by decide
theorem k_zero {x : Int32} (h : x.toInt = 0) : x = 0 := Int32.toInt_inj.mp (h.trans (by decide))
def k_PreH (D : va_G) (tys : List (ClassId × FieldType)) (ws : va_W) (hp : Heap) : State → Prop := fun U => U.heap = hp ∧ va_P D vwCl ws U.heap ∧ va_K D vwCl tys U ∧ va_D (fun _ => True) ws
theorem k_blindH {D : va_G} {tys : List (ClassId × FieldType)} {ws : va_W} {hp : Heap} {av : List Value} : FrameBlind (va_Pc av (k_PreH D tys ws hp)) := fun a U g mk q => by
  obtain ⟨q0, q1, qP, qK, qD⟩ := q
  exact ⟨q0, q1, qP, va_K.moved (u := U) (U := U.calling g mk a) (Vm.Alike.refl U.vm) qK, qD⟩
theorem k_preH {D : va_G} {tys : List (ClassId × FieldType)} {ws : va_W} {s U : State} {H : Heap} {A : Nat → Prop} (hU : U.heap = H) (hW : s.WarmedH U.vm) (hP : va_P D vwCl ws H) (hK : va_K D vwCl tys s) (hD : va_D A ws) : k_PreH D tys ws H U := ⟨hU, by rw [hU]; exact hP, va_K.moved hW.alike hK, hD.weaken (fun _ _ _ _ => trivial)⟩
theorem k_le {x y : Int32} (h : x ≤ y) : x.toInt ≤ y.toInt := Int32.le_iff_toInt_le.mp h
theorem k_lt {x y : Int32} (h : x < y) : x.toInt < y.toInt := Int32.lt_iff_toInt_lt.mp h
theorem k_nle {x y : Int32} (h : ¬ x ≤ y) : y.toInt < x.toInt := by rw [Int32.le_iff_toInt_le] at h; omega
theorem k_nlt {x y : Int32} (h : ¬ x < y) : y.toInt ≤ x.toInt := by rw [Int32.lt_iff_toInt_lt] at h; omega
theorem k_eq {x y : Int32} (h : x = y) : x.toInt = y.toInt := by rw [h]
theorem k_ne {x y : Int32} (h : ¬ x = y) : x.toInt ≠ y.toInt := fun e => h (Int32.toInt_inj.mp e)
theorem k_in {x : Int32} {n : Nat} (h : 0 ≤ x.toInt) (h2 : x.toInt < n) : vp_in x n := vp_in_iff.mpr ⟨h, h2⟩

theorem k_dec (x : Int32) : x + Int32.ofInt (-1) = x - 1 := by
  rw [Int32.sub_eq_add_neg]
  rfl
def k_let {α β : Type} (x : α) (f : α → Option β) : Option β := f x
def k_bind {α β : Type} (x : Option (Int32 × α)) (f : Int32 → α → Option β) : Option β := match x with
  | none => none
  | some q => f q.1 q.2
theorem k_bd {α β : Type} {x : Option (Int32 × α)} {f : Int32 → α → Option β} {b : β} (h : k_bind x f = some b) : ∃ (r : Int32) (a : α), x = some (r, a) ∧ f r a = some b := by
  cases x with
  | none => cases h
  | some q => exact ⟨q.1, q.2, rfl, h⟩
theorem k_if {c : Prop} [Decidable c] {α : Type} {x : Option α} {b : α} (h : (if c then x else none) = some b) : c ∧ x = some b := by
  by_cases hc : c
  · rw [if_pos hc] at h; exact ⟨hc, h⟩
  · rw [if_neg hc] at h; cases h
theorem k_so {α : Type} {a c : Int32} {b d : α} (h : some (a, b) = some (c, d)) : a = c ∧ b = d := by cases h; exact ⟨rfl, rfl⟩
theorem k_nb (x : Int32) : vp_nar .boolean x = x &&& 1 := rfl
theorem k_nb0 : vp_nar .boolean 0 = 0 := by decide
theorem k_nb1 : vp_nar .boolean 1 = 1 := by decide
theorem k_non {α : Type} {b : α} : ¬ (none = some b) := fun h => by cases h
theorem k_free {A0 : Nat → Prop} {ws : va_W} {H0 H : Heap} {locs : List Loc} (hD : va_D A0 ws) (hS : va_S A0 H0 H locs) (hA : ∀ q, H0.size ≤ q → A0 q) : ∀ q, va_A ws H.size q → A0 q := fun q h => h.elim (fun ⟨k, e, hk⟩ => hD.2 k _ hk) (fun h => hA q (Nat.le_trans hS.1 h))
theorem k_weak {A0 : Nat → Prop} {ws w1 : va_W} {sz : Nat} (h : va_D (va_A ws sz) w1) (hF : ∀ q, va_A ws sz q → A0 q) : va_D A0 w1 := h.weaken (fun _ q _ ha => hF q.1 ha)
def k_BM (D : va_G) (A : Nat → Prop) (hp : Heap) (dc ds : Nat) : va_W × List (ClassId × FieldType) → State → Prop := fun u t => k_B D A u t ∧ k_Sz hp t.heap ∧ t.heap.size ≤ hp.size + dc ∧ k_nS hp.size t.heap ≤ ds

theorem k_newa {p : Program} {l : Launch} {e : Env} {R : Room} {s : State} {m : MethodId} {args : Array Value} {below : List Frame} {meth : Method} {c : Code} {H : Heap} {locs : List Loc} {cells slots : Nat} {Q : State → Prop} {cc : ByteArray} {pc : Nat} {ls : Array Slot} {rest : List Value} {D : va_G} {cl : List vw_C} {ws : va_W} {tys : List (ClassId × FieldType)} {A : Nat → Prop} {H0 : Heap} (hexec : p.tables.exec = Jvm.exec) (hb : c.code = cc) {atype : ArrayType} (harr : (Cond.arrayClass (newarray.typeOf atype)).before args s = true) {ty : FieldType} (hty : newarray.typeOf atype = ty) (hK : va_K D cl tys s) (t0 : Nat) {cI : ClassId} (ht : tys[t0]? = some (cI, ty)) (hpr : ∀ (U : State) (cA : ClassId), va_RA U cA ty = (U.vm.findClass ("[" ++ ty.toString) = some cA)) (hP : va_P D cl ws H) (hD : va_D A ws) (hS : va_S A H0 H locs) (hA : ∀ q, H0.size ≤ q → A q)
    {n : Int32} {N' : Nat} {a0 : vp_A} (ha : ∀ cA : ClassId, vp_cell cA a0 = arrV cA N' (fun _ => defaultValue ty)) (hn : ¬ n < 0) (hN : n.toNatClampNeg = N') (hbytes : N' * componentBytes ty ≤ 536870912) (hcells : cells + 1 ≤ R.cells) (hslots : slots + N' ≤ R.slots) (hdg : decode cc pc = .ok (.newarray atype, 2))
    (kk : ∀ (q : Nat) (H1 : Heap), va_P D cl (ws ++ [(q, .inl (cI, a0))]) H1 → va_D A (ws ++ [(q, .inl (cI, a0))]) → va_S A H0 H1 locs →
      W p l e R s m args below meth c H1 locs (cells + 1) (slots + N') Q (F0 m (pc + 2) ls (.ref q :: rest))) : W p l e R s m args below meth c H locs cells slots Q (F0 m pc ls (.int n :: rest)) := by
  refine va_newa hexec hb harr hty hK hP hD hS hA ha hn hN hbytes hcells hslots hdg (fun q cA H1 hK' hP' hD' hS' => ?_)
  have h1 := (hK.2 t0 _ ht).2
  have h2 := (hK'.2 tys.length (cA, ty) (by simp)).2
  rw [hpr] at h1 h2
  have h3 : cI = cA := Option.some.inj (h1.symm.trans h2)
  subst h3
  exact kk q H1 hP' hD' hS'

