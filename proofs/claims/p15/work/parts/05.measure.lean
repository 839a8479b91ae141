/-- the slots of the cells from n on -/
def k_nS (n : Nat) (H : Heap) : Nat := ((H.toList.drop n).map (·.slots.size)).sum
/-- every cell of H0 is in H, with as many slots -/
def k_Sz (H0 H : Heap) : Prop := H0.size ≤ H.size ∧ ∀ (q : Nat) (c : Cell), H0[q]? = some c → ∃ c' : Cell, H[q]? = some c' ∧ c'.slots.size = c.slots.size
theorem k_Sz_rf (H : Heap) : k_Sz H H := ⟨Nat.le_refl _, fun _ c h => ⟨c, h, rfl⟩⟩
theorem k_Sz_tr {H0 H1 H2 : Heap} (h1 : k_Sz H0 H1) (h2 : k_Sz H1 H2) : k_Sz H0 H2 := ⟨Nat.le_trans h1.1 h2.1, fun q c h => by
  obtain ⟨c1, e1, z1⟩ := h1.2 q c h
  obtain ⟨c2, e2, z2⟩ := h2.2 q c1 e1
  exact ⟨c2, e2, z2.trans z1⟩⟩
theorem k_drop {l1 l2 : List Nat} {n : Nat} (hn : n ≤ l1.length) (h : l2.take l1.length = l1) : (l2.drop n).sum = (l1.drop n).sum + (l2.drop l1.length).sum := by
  have e : l2 = l1 ++ l2.drop l1.length := by
    conv => lhs; rw [← List.take_append_drop l1.length l2, h]
  conv => lhs; rw [e, List.drop_append_of_le_length hn, List.sum_append]
theorem k_nS_tr {n : Nat} {H1 H2 : Heap} (hn : n ≤ H1.size) (h : k_Sz H1 H2) : k_nS n H2 = k_nS n H1 + k_nS H1.size H2 := by
  have key := k_drop (l1 := H1.toList.map (·.slots.size)) (l2 := H2.toList.map (·.slots.size)) (n := n) (by simpa using hn) (by
    apply List.ext_getElem?
    intro q
    rw [List.getElem?_take]
    by_cases hq : q < H1.size
    · obtain ⟨c, hc⟩ : ∃ c, H1[q]? = some c := ⟨H1[q], Array.getElem?_eq_getElem hq⟩
      obtain ⟨c2, e2, z2⟩ := h.2 q c hc
      have h1 : H1.toList[q]? = some c := by rw [Array.getElem?_toList]; exact hc
      have h2 : H2.toList[q]? = some c2 := by rw [Array.getElem?_toList]; exact e2
      rw [if_pos (by simpa using hq), List.getElem?_map, List.getElem?_map, h1, h2]
      exact congrArg some z2
    · have h1 : H1.toList[q]? = none := by rw [Array.getElem?_toList]; exact Array.getElem?_eq_none (by omega)
      simp [List.getElem?_map, h1, hq])
  simp only [← List.map_drop, List.length_map, Array.length_toList] at key
  exact key
section KM
variable {p : Program} {l : Launch} {e : Env} {R : Room} {s : State} {m : MethodId} {args : Array Value} {below : List Frame} {meth : Method} {c : Code} {H : Heap} {locs : List Loc} {cells slots : Nat} {Q : State → Prop} {g : JFrame}
/-- what the walk's own count says of the heap -/
theorem k_facts (kk : H.size ≤ s.heap.size + cells → k_nS s.heap.size H ≤ slots → k_Sz s.heap H → W p l e R s m args below meth c H locs cells slots Q g) : W p l e R s m args below meth c H locs cells slots Q g := fun T hT X => by
  obtain ⟨-, h1, h2, -, h4, h5⟩ := X.same
  subst hT
  exact kk h2 h4 ⟨h1, fun q c hq => by obtain ⟨c', e1, -, e2, -⟩ := h5 q c hq; exact ⟨c', e1, e2⟩⟩ T rfl X
/-- the count made tight again -/
theorem k_tight {k n : Nat} (h1 : H.size ≤ s.heap.size + k) (h2 : k_nS s.heap.size H ≤ n) (kk : W p l e R s m args below meth c H locs k n Q g) : W p l e R s m args below meth c H locs cells slots Q g := fun T hT X => by
  subst hT
  exact kk T rfl ⟨X.admits, X.cas, X.clock, X.frames, X.room, X.hears, X.method, X.code, X.here, X.tail, X.warmed, X.limits, X.bytes, ⟨X.same.1, X.same.2.1, h1, X.same.2.2.2.1, h2, X.same.2.2.2.2.2⟩⟩
end KM
