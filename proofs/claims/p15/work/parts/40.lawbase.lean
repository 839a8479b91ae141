/-! THE CLAIM OUT OF ONE WALK OF THE LAW'S BODY. Your part is whole_start (and what it stands on); all else here is the same for every law, but numbers. -/
def R_law : String := "ActHouseLaw"
def lw_P (b : Addr) (xs : List Int32) (args : Array Value) (s : State) : Prop := args = #[.ref b] ∧ s.IntsAt b xs ∧ xs.length ≤ 2048 ∧ (Jvm.Cond.and given_1 narrow_1).before args s = true
def lw_Q (_ : Array Value) (s : State) (o : Outcome) (t : State) : Prop := o = .returned (some (.int 1)) ∧ Framed s o t [] 600000 7302250
def lw_Z (below : List Frame) (a : Array Value) (s : State) : State → Prop := fun t => ∃ o, t.status = .running ∧ Ended t below o ∧ lw_Q a s o t
/-- the law's own end, with 1 on the stack, nothing written that was there before, its room as the claim has it -/
theorem lw_ret {p : Program} {l : Launch} {e : Env} {s : State} {m : MethodId} {below : List Frame} {meth : Method} {c : Code} {b : Nat} (hx : p.tables.exec = Jvm.exec) (hb : c.code = code) (hr : meth.sig.returnType = ret) (hlocks : meth.locks = false) {pc : Nat} {H : Heap} {ls : Array Slot} (hdg : decode code pc = .ok (.ireturn, 1)) : W p l e room_1 s m #[Value.ref b] below meth c H [] 600000 7302250 (lw_Z below #[Value.ref b] s) (F0 m pc ls [.int 1]) := by
  intro T hT X
  obtain ⟨fs, hret, hrun, hended, hW, hframe⟩ := X.leave (v := some (.int 1)) (hlocks := hlocks) (fun h => by rw [hr] at h; cases h)
  have hmeth' : T.vm.method? m = some meth := X.method'
  refine ⟨T.setFrames fs, ?_, .returned (some (.int 1)), hrun, hended, rfl, ⟨_, rfl⟩, hW, hframe⟩
  jvm_step X.here [X.here.top, hx, hb, hdg, hmeth', hr, ret, narrow_b1]
  (try refine ⟨rfl, ?_⟩); (try refine ⟨rfl, ?_⟩)
  first | (intro acts; rw [hret _ acts rfl rfl rfl]) | rw [hret _ _ rfl rfl rfl]
  exact Steps.refl _
/-- what holds at the law's entry: the machine, the code, the tables' words (any of lw_tbl by 'hts w (by decide +kernel)'), the script of L ints xs at the cell b, what the Statement gives of the start (any of its parts by flat_of_before) -/
def lw_At (p : Program) (s : State) (m : MethodId) (meth : Method) (c : Code) (b L : Nat) (xs : Nat → Int32) : Prop :=
  p.tables.exec = Jvm.exec ∧ c.code = code ∧ meth.sig.returnType = ret ∧ c.maxLocals = 4 ∧ s.vm.findClass R_law = some m.cls ∧ (∀ w ∈ lw_tbl, w.before #[Value.ref b] s = true) ∧ va_X b L xs s s.heap ∧ b < s.heap.size ∧ meth.locks = false ∧ (Jvm.Cond.and given_1 narrow_1).before #[Value.ref b] s = true
-- ===== YOUR PART BEGINS =====
set_option maxRecDepth 20000 in
theorem kq_over : (Cond.arrayOver (.object RX0)) ∈ lw_tbl := by decide +kernel
set_option maxRecDepth 20000 in
theorem kq_n45 : (Cond.methodLinkNest RX3 45 yX1_init RX3) ∈ lw_tbl := by decide +kernel
set_option maxRecDepth 20000 in
theorem kq_n52 : (Cond.methodLinkNest RX3 52 yX2_init RX3) ∈ lw_tbl := by decide +kernel
set_option maxRecDepth 20000 in
theorem kq_i0 : (Cond.instantiable RX0 20) ∈ lw_tbl := by decide +kernel
set_option maxRecDepth 20000 in
theorem kq_i1 : (Cond.instantiable RX1 3) ∈ lw_tbl := by decide +kernel
set_option maxRecDepth 20000 in
theorem kq_i2 : (Cond.instantiable RX2 3) ∈ lw_tbl := by decide +kernel
set_option maxRecDepth 20000 in
theorem kq_i3 : (Cond.instantiable RX3 18) ∈ lw_tbl := by decide +kernel
set_option maxRecDepth 20000 in
theorem kq_i4 : (Cond.instantiable RX4 39) ∈ lw_tbl := by decide +kernel
theorem k_appL {D : va_G} {cl : List vw_C} {w1 w2 : va_W} {H : Heap} (hP : va_P D cl (w1 ++ w2) H) : va_P D cl w1 H := fun k x hk => hP k x (by rw [List.getElem?_append_left (List.getElem?_eq_some_iff.mp hk).1]; exact hk)
theorem k_appR {D : va_G} {cl : List vw_C} {w1 w2 : va_W} {H : Heap} (hP : va_P D cl (w1 ++ w2) H) : va_P D cl w2 H := fun k x hk => hP (w1.length + k) x (by rw [List.getElem?_append_right (by omega), Nat.add_sub_cancel_left]; exact hk)
theorem k_appDL {A : Nat → Prop} {w1 w2 : va_W} (hD : va_D A (w1 ++ w2)) : va_D A w1 := by
  have e : ∀ (k : Nat) (x : Nat × va_E), w1[k]? = some x → (w1 ++ w2)[k]? = some x := fun k x hk => by rw [List.getElem?_append_left (List.getElem?_eq_some_iff.mp hk).1]; exact hk
  exact ⟨fun i j p q hi hj h => hD.1 i j p q (e i p hi) (e j q hj) h, fun k x hk => hD.2 k x (e k x hk)⟩
theorem k_appDR {A : Nat → Prop} {w1 w2 : va_W} (hD : va_D A (w1 ++ w2)) : va_D A w2 := by
  have e : ∀ (k : Nat) (x : Nat × va_E), w2[k]? = some x → (w1 ++ w2)[w1.length + k]? = some x := fun k x hk => by rw [List.getElem?_append_right (by omega), Nat.add_sub_cancel_left]; exact hk
  exact ⟨fun i j p q hi hj h => by have := hD.1 _ _ p q (e i p hi) (e j q hj) h; omega, fun k x hk => hD.2 _ x (e k x hk)⟩
theorem k_swP {D : va_G} {cl : List vw_C} {w1 w2 : va_W} {H : Heap} (hP : va_P D cl (w1 ++ w2) H) : va_P D cl (w2 ++ w1) H := fun k x hk => by
  by_cases h : k < w2.length
  · rw [List.getElem?_append_left h] at hk; exact k_appR hP k x hk
  · rw [List.getElem?_append_right (by omega)] at hk; exact k_appL hP _ x hk
theorem k_swD {A : Nat → Prop} {w1 w2 : va_W} (hD : va_D A (w1 ++ w2)) : va_D A (w2 ++ w1) := by
  have e : ∀ (k : Nat) (x : Nat × va_E), (w2 ++ w1)[k]? = some x → ∃ k', (w1 ++ w2)[k']? = some x ∧ ((k < w2.length ∧ k' = w1.length + k) ∨ (w2.length ≤ k ∧ k' = k - w2.length ∧ k' < w1.length)) := fun k x hk => by
    by_cases h : k < w2.length
    · rw [List.getElem?_append_left h] at hk
      exact ⟨w1.length + k, by rw [List.getElem?_append_right (by omega), Nat.add_sub_cancel_left]; exact hk, Or.inl ⟨h, rfl⟩⟩
    · rw [List.getElem?_append_right (by omega)] at hk
      have hl := (List.getElem?_eq_some_iff.mp hk).1
      exact ⟨k - w2.length, by rw [List.getElem?_append_left hl]; exact hk, Or.inr ⟨by omega, rfl, hl⟩⟩
  refine ⟨fun i j p q hi hj h => ?_, fun k x hk => ?_⟩
  · obtain ⟨i', h1, g1⟩ := e i p hi; obtain ⟨j', h2, g2⟩ := e j q hj
    have := hD.1 i' j' p q h1 h2 h
    omega
  · obtain ⟨k', h1, -⟩ := e k x hk; exact hD.2 k' x h1
/-- the frame rule of two worlds side by side -/
theorem k_joinR {D : va_G} {cl : List vw_C} {A : Nat → Prop} {ws w w1 : va_W} {H H1 : Heap} (hP : va_P D cl (ws ++ w) H) (hD : va_D A (ws ++ w)) (hF : ∀ x, va_A w H.size x → A x) (hk1 : ∀ x : Nat, x < H.size → ¬ va_A w H.size x → H1[x]? = H[x]?) (hP1 : va_P D cl w1 H1) (hD1 : va_D (va_A w H.size) w1) : va_P D cl (ws ++ w1) H1 ∧ va_D A (ws ++ w1) := by
  have hl0 : ∀ (k : Nat) (x : Nat × va_E), ws[k]? = some x → (ws ++ w)[k]? = some x ∧ k < ws.length := fun k x hk => by
    have hl := (List.getElem?_eq_some_iff.mp hk).1
    exact ⟨by rw [List.getElem?_append_left hl]; exact hk, hl⟩
  have hout : ∀ (k : Nat) (x : Nat × va_E), ws[k]? = some x → ¬ va_A w H.size x.1 := fun k x hk ha => by
    obtain ⟨h1, h2⟩ := hl0 k x hk
    rcases ha with ⟨k', e'', hk'⟩ | ha
    · have := hD.1 k (ws.length + k') x (x.1, e'') h1 (by rw [List.getElem?_append_right (by omega), Nat.add_sub_cancel_left]; exact hk') rfl
      omega
    · have := (hP k x h1).lt; omega
  have key : ∀ (k : Nat) (x : Nat × va_E), (ws ++ w1)[k]? = some x → (ws[k]? = some x ∧ k < ws.length) ∨ (ws.length ≤ k ∧ w1[k - ws.length]? = some x) := fun k x hk => by
    by_cases hl : k < ws.length
    · rw [List.getElem?_append_left hl] at hk; exact Or.inl ⟨hk, hl⟩
    · rw [List.getElem?_append_right (by omega)] at hk; exact Or.inr ⟨by omega, hk⟩
  refine ⟨fun k x hk => ?_, fun i j p r hi hj hpr => ?_, fun k x hk => ?_⟩
  · rcases key k x hk with ⟨h, -⟩ | ⟨-, h⟩
    · exact (hP k x (hl0 k x h).1).kept (hk1 x.1 (hP k x (hl0 k x h).1).lt (hout k x h))
    · exact hP1 _ _ h
  · rcases key i p hi with ⟨h1, l1⟩ | ⟨l1, h1⟩ <;> rcases key j r hj with ⟨h2, l2⟩ | ⟨l2, h2⟩
    · exact hD.1 i j p r (hl0 i p h1).1 (hl0 j r h2).1 hpr
    · exact absurd (hpr ▸ hD1.2 _ _ h2) (hout i p h1)
    · exact absurd (hpr.symm ▸ hD1.2 _ _ h1) (hout j r h2)
    · have := hD1.1 _ _ _ _ h1 h2 hpr; omega
  · rcases key k x hk with ⟨h, -⟩ | ⟨-, h⟩
    · exact hD.2 k x (hl0 k x h).1
    · exact hF _ (hD1.2 _ _ h)
theorem k_joinL {D : va_G} {cl : List vw_C} {A : Nat → Prop} {ws w w1 : va_W} {H H1 : Heap} (hP : va_P D cl (w ++ ws) H) (hD : va_D A (w ++ ws)) (hF : ∀ x, va_A w H.size x → A x) (hk1 : ∀ x : Nat, x < H.size → ¬ va_A w H.size x → H1[x]? = H[x]?) (hP1 : va_P D cl w1 H1) (hD1 : va_D (va_A w H.size) w1) : va_P D cl (w1 ++ ws) H1 ∧ va_D A (w1 ++ ws) := by
  obtain ⟨h1, h2⟩ := k_joinR (k_swP hP) (k_swD hD) hF hk1 hP1 hD1
  exact ⟨k_swP h1, k_swD h2⟩
def lbd (C : CS) (M : MS) : Prop := gN C ≤ 80 ∧ 256 ≤ gE C ∧ gE C ≤ 1048576 ∧ 4000 ≤ M.2.2 ∧ M.2.2 ≤ 2048000
/-- the start -/
def C00 : CS := (fun _ => 0, va_up (fun _ _ => 0) 2 (k_fil 4 3 (fun _ => 0)), fun _ _ => 0, 256, 0, fun _ _ => 0, fun _ _ _ => 0)
def M00 (fl : Nat → Int32) : MS := (fun _ => 0, va_up (fun _ _ => 0) 4 fl, 4000)

