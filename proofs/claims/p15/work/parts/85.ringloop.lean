theorem c_last {C : CS} {M : MS} {n t d e kp fa m v : Nat} {g A : Nat → Nat} (h : TR C M n t d e kp fa m g v A) : ∃ (r : Int32) (g' : Nat → Int64), f_X3_lastBegunInRing C = some (r, cLF C 31 g') ∧ bst M (fun x => (wAll A m x).testBit x = true) g m r := by
  obtain ⟨r1, r2, r3, r4, r5, r6, r7, r8, r9, r10⟩ := h
  obtain ⟨b1, b2, b3, b4⟩ : M.1 7 = nI n ∧ C.1 12 = nI n ∧ gN C = n ∧ n ≤ 80 := r1 0
  obtain ⟨g', c1, c2⟩ := c_close r2.2.2 r2.2.1 r9
  unfold f_X3_lastBegunInRing
  rw [c1, k_bs]
  obtain ⟨v', e1, e2⟩ := c_last_11 (C := cLF C 31 g') (M := M) (n := n) (m := m) (g := g) (B := wAll A m) b4 b3 r2.1 r2.2.2 r3 r4 (fun x hx => (r1 12 x hx 5).1) c2 200 0 (-1) (by omega) (by omega) (Or.inl ⟨rfl, fun p hp => by omega⟩)
  exact ⟨v', g', e1, e2⟩
theorem ring_loop {t kp fa m : Nat} {g : Nat → Nat} (k k2 v : Nat) (x : Int32) (C : CS) (M : MS) (n d e : Nat) (A : Nat → Nat) (h : TR C M n t d e kp fa m g v A) (hx : x ≠ -1) (hv : v ≤ m) (hk : m < k + v) (hk2 : m + 1 < k2 + v) : ∃ C' M' e', f_X3_breakRings_10 k (nI v) C = some (0, C') ∧ f_X4_breaks_2 k2 x M = some (0, M') ∧ (∀ i, RI C' M' n t (t + 1) d e' kp fa i) ∧ e' ≤ 72 * t + d + 80 * fa + m := by
  induction k generalizing k2 v x C M e A with
  | zero => omega
  | succ k ih =>
    obtain ⟨k2, rfl⟩ : ∃ y, k2 = y + 2 := ⟨k2 - 2, by omega⟩
    have hH := TR_held h
    obtain ⟨r1, r2, r3, r4, r5, r6, r7, r8, r9, r10⟩ := id h
    have m36 := r2.2.2
    obtain ⟨b1, b2, b3, b4⟩ : M.1 7 = nI n ∧ C.1 12 = nI n ∧ gN C = n ∧ n ≤ 80 := r1 0
    rw [f_X3_breakRings_10, r2.1]
    by_cases h0 : m ≤ v
    · rw [if_pos (np_ h0 (by omega) (by omega))]
      have hc0 := hc_0 (M := M) (g := g) m (by omega)
      obtain ⟨rch, que, e1⟩ := no_ring k2 x hx b4 b1 hH (fun p hp z => by
        obtain ⟨c, hc⟩ := ring_hd z
        obtain ⟨q, q1, q2⟩ := r5 p hp hc.2.2.1
        exact hc0 q q1 (by rw [q2]; exact ⟨hc.2.2.1, hc.2.2.2.1⟩))
      exact ⟨C, _, e, rfl, e1, RI_fr (C := C) (M := M) (fun _ _ _ => rfl) rfl rfl rfl rfl rfl rfl (fun _ _ _ => rfl) (fun k hk => by rw [mR_get, if_neg (by omega), mR_get, if_neg (by omega)]) r1, by omega⟩
    · rw [if_neg (nn h0 (by omega) (by omega))]
      obtain ⟨r, g', c1, c2⟩ := c_last h
      rw [c1, k_bs]
      have ri : ∀ i, i < m → ((wAll A m i).testBit i = true ↔ Relation.TransGen (wE M n) (g i) (g i)) := fun i hi => (wAll_iff hi hi).trans (ring_iff r10 (fun q hq => (r3 q hq).2) r4 r5 hi)
      have rall : ∀ p, p < n → Relation.TransGen (wE M n) p p → ∃ q, q < m ∧ g q = p ∧ (wAll A m q).testBit q = true := fun p hp z => by
        obtain ⟨c, hc⟩ := ring_hd z
        obtain ⟨q, q1, q2⟩ := r5 p hp hc.2.2.1
        exact ⟨q, q1, q2, (ri q q1).mpr (by rw [q2]; exact z)⟩
      rcases c2 with ⟨q1, q2⟩ | ⟨i, i1, i2, i3, i4⟩
      · rw [if_pos q1]
        obtain ⟨rch, que, e1⟩ := no_ring k2 x hx b4 b1 hH (fun p hp z => by
          obtain ⟨q, z1, z2, z3⟩ := rall p hp z
          exact q2 q z1 z3)
        exact ⟨_, _, e, rfl, e1, RI_fr (C := C) (M := M) (fun _ _ _ => rfl) rfl rfl rfl rfl rfl rfl (fun _ _ _ => rfl) (fun k hk => by rw [mR_get, if_neg (by omega), mR_get, if_neg (by omega)]) r1, by omega⟩
      · obtain ⟨y1, y2⟩ := r3 i i1
        rw [i2, if_neg (m1_ne (by omega)), if_pos (ck i 36 (by omega)), nc i (by omega), show (cLF C 31 g').2.1 8 i = nI (g i) from y1]
        have hRi := (ri i i1).mp i3
        obtain ⟨cc, hcc⟩ := ring_hd hRi
        have hs : M.2.1 11 (g i) = 1 := hcc.2.2.1
        have h16 : M.2.1 16 (g i) ≠ 0 := hcc.2.2.2.1
        rw [f_X4_breaks_2, if_neg hx]
        obtain ⟨w, rch, que, e1, e2⟩ := m_last (fun v1 M => f_X4_breaks_2 (k2 + 1) v1 M) b4 b1 hH
        rw [e1]
        have ew : w = nI (g i) := by
          rcases e2 with ⟨-, q2⟩ | ⟨p, p1, p2, p3, p4⟩
          · exact absurd hRi (q2 (g i) y2)
          · by_cases z : p = g i
            · rw [p2, z]
            · have l1 : lat M p (g i) := p4 (g i) y2 hRi (fun e => z e.symm)
              obtain ⟨q, z1, z2, z3⟩ := rall p p1 p3
              have l2 : lat M (g i) (g q) := i4 q z1 z3 (fun e => by subst e; exact z z2.symm)
              rw [z2] at l2
              unfold lat at l1 l2; omega
        rw [ew]
        obtain ⟨dd1, dd2, dd3⟩ : M.1 29 = nI d ∧ C.1 13 = nI d ∧ d ≤ n := r1 2
        obtain ⟨tt1, tt2, tt3⟩ : M.1 0 = nI t ∧ C.1 15 = nI t ∧ t ≤ 5000 := r1 1
        obtain ⟨-, -, -, ff⟩ : C.1 16 = M.1 34 ∧ C.1 17 = nI fa ∧ M.1 35 = nI fa ∧ fa ≤ 512 := r1 5
        have hR1 : ∀ j, RI (cLF C 31 g') (mR (mR M 37 rch) 38 que) n t (t + 1) d e kp fa j := RI_fr (C := C) (M := M) (fun _ _ _ => rfl) rfl rfl rfl rfl rfl rfl (fun _ _ _ => rfl) (fun k hk => by rw [mR_get, if_neg (by omega), mR_get, if_neg (by omega)]) r1
        obtain ⟨C', M', u1, u2, u3, u4, u5, u6, u7, u8, u9⟩ := undo_same hR1 y2 hs (by omega) (fun v1 M => f_X4_breaks_2 (k2 + 1) v1 M)
        rw [u1, k_bs, u2]
        have u8 : ∀ k z, k ≤ 28 → ¬ AtA k (g i) z → M'.2.1 k z = M.2.1 k z := fun k z h1 h2 => by rw [u8 k z (by omega) h2, mR_get, if_neg (by omega), mR_get, if_neg (by omega)]
        have c30 : C'.2.2.1 30 = C.2.2.1 30 := by rw [u6]; rfl
        have rem : f_X2_remove (nI i) C' = some (0, cLF C' 30 (vp_updL (C.2.2.1 30) i 0)) := by
          unfold f_X2_remove
          rw [if_pos (ck i 36 (by omega)), nc i (by omega), k_ls, c30]
        rw [rem, k_bs, n1, nI_add]
        have ne : ∀ q, q < m → q ≠ i → g q ≠ g i := fun q hq hqi => by
          by_cases z : q < i
          · exact r4 q i z i1
          · exact fun e => r4 i q (by omega) hq e.symm
        have s0 : ∀ q, q < m → q ≠ i → M'.2.1 11 (g q) = M.2.1 11 (g q) := fun q hq hqi => u8 11 _ (by omega) (noAt1 (ne q hq hqi) (by omega))
        have hcn := hc_un (M := M) (M' := M') (g := g) (a := g i) ⟨hs, h16⟩ (by rw [u9]; decide) m (fun q hq hqa => ⟨u8 11 _ (by omega) (noAt1 hqa (by omega)), u8 16 _ (by omega) (noAt1 hqa (by omega))⟩) r4 i1 rfl
        have hT : TR (cLF C' 30 (vp_updL (C.2.2.1 30) i 0)) M' n t d (e + 1) kp fa m g (v + 1) (fun z => if z = i then 0 else A z) := by
          refine ⟨RI_fr (C := C') (M := M') (fun _ _ _ => rfl) rfl rfl rfl rfl rfl rfl (fun _ _ _ => rfl) (fun _ _ => rfl) u3, ⟨(u4 14 (by omega) (by omega)).trans r2.1, (u4 32 (by omega) (by omega)).trans r2.2.1, r2.2.2⟩, fun q hq => ⟨by show C'.2.1 8 q = _; rw [u5]; exact (r3 q hq).1, (r3 q hq).2⟩, r4, fun z hz hzs => ?_, fun q hq hqs => ?_, by omega, by omega, fun q hq => ?_, fun p hp => ⟨fun j hj => ?_, fun j hj hw => ?_⟩⟩
          · by_cases e0 : z = g i
            · exact ⟨i, i1, e0.symm⟩
            · rw [u8 11 z (by omega) (noAt1 e0 (by omega))] at hzs; exact r5 z hz hzs
          · by_cases e0 : q = i
            · subst e0; rw [u9] at hqs; exact absurd hqs (by decide)
            · have nq := ne q hq e0
              rw [s0 q hq e0] at hqs
              unfold HS
              rw [u8 16 _ (by omega) (noAt1 nq (by omega)), u8 14 _ (by omega) (noAt1 nq (by omega)), show gP (cLF C' 30 (vp_updL (C.2.2.1 30) i 0)) (g q) 15 = gP C (g q) 15 from by show gP C' (g q) 15 = _; rw [u7 _ nq]; rfl]
              rcases r6 q hq hqs with w | ⟨w1, w2, s, kk, w3, w4, w5, w6⟩
              · exact Or.inl w
              · exact Or.inr ⟨w1, w2, s, kk, w3, w4, by rw [u8 13 _ (by omega) (noAt12 nq (by omega) w3)]; exact w5, w6⟩
          · show vp_updL (C.2.2.1 30) i 0 q = lN (if q = i then 0 else A q) ∧ (if q = i then 0 else A q) < 2 ^ 36
            rw [vpL_get]
            by_cases e0 : q = i
            · rw [if_pos e0, if_pos e0]; exact ⟨rfl, by decide⟩
            · rw [if_neg e0, if_neg e0]; exact r9 q hq
          · simp only [] at hj
            by_cases e0 : p = i
            · rw [if_pos e0, Nat.zero_testBit] at hj; exact absurd hj (by decide)
            · rw [if_neg e0] at hj
              obtain ⟨o1, o2, o3⟩ := (r10 p hp).1 j hj
              refine ⟨o1, by rw [s0 p hp e0]; exact o2, fun hjs => ?_⟩
              have e1 : j ≠ i := fun z => by subst z; rw [u9] at hjs; exact absurd hjs (by decide)
              rw [s0 j o1 e1] at hjs
              exact (waits_c (C := C) (t := t) u8 (ne p hp e0) (ne j o1 e1) (r6 p hp)).mpr (o3 hjs)
          · have e0 : p ≠ i := fun z => by subst z; have := hw.1; rw [u9] at this; exact absurd this (by decide)
            have e1 : j ≠ i := fun z => by subst z; have := hw.2.2.2.2.1; rw [u9] at this; exact absurd this (by decide)
            simp only [if_neg e0]
            exact (r10 p hp).2 j hj ((waits_c (C := C) (t := t) u8 (ne p hp e0) (ne j hj e1) (r6 p hp)).mp hw)
        obtain ⟨C2, M2, e', f1, f2, f3, f4⟩ := ih (k2 + 1) (v + 1) (nI (g i)) _ M' (e + 1) _ hT (m1_ne (by omega)) (by omega) (by omega) (by omega)
        exact ⟨C2, M2, e', f1, f2, f3, f4⟩
theorem rings_same {C : CS} {M : MS} {n t d e kp fa m : Nat} {g : Nat → Nat} (h : TK C M n t d e kp fa m g m) : ∃ C' M' e', f_X3_breakRings C = some (0, C') ∧ f_X4_breaks M = some (0, M') ∧ (∀ i, RI C' M' n t (t + 1) d e' kp fa i) ∧ e' ≤ 72 * t + d + 80 * fa + 36 := by
  obtain ⟨t1, t2, t3, t4, t5, t6, t7, t8⟩ := h
  obtain ⟨b1, b2, b3, b4⟩ : M.1 7 = nI n ∧ C.1 12 = nI n ∧ gN C = n ∧ n ≤ 80 := t1 0
  obtain ⟨any, gA, A, d1, d2, d3, d4, d5⟩ := draw_same t1 t2.1 t2.2 (fun q hq => ⟨(t3 q hq).1, (t3 q hq).2.1⟩) t4 t7
  unfold f_X3_breakRings f_X4_breaks
  rw [d1, k_bs]
  have hT : TR (cLF (cN C 32 (nI m)) 30 gA) M n t d e kp fa m g 0 A := by
    refine ⟨RI_fr (C := C) (M := M) (fun k h1 h2 => by show (cN C 32 (nI m)).1 k = _; rw [cN_1, if_neg h2]) rfl rfl rfl rfl rfl rfl (fun _ _ _ => rfl) (fun _ _ => rfl) t1, ⟨t2.1, rfl, t2.2⟩, fun q hq => ⟨(t3 q hq).1, (t3 q hq).2.1⟩, t4, t5, t7, by omega, by have := hc_le (M := M) (g := g) m; omega, d2, fun i hi => ⟨fun j hj => ?_, fun j hj hw => (d4 i hi j).mpr ⟨hj, hw⟩⟩⟩
    have := (d4 i hi j).mp hj
    exact ⟨this.1, this.2.1, fun _ => this.2⟩
  rcases d3 with q | q
  · rw [if_pos q]
    have hno : ∀ x y, x < n → ¬ wE M n x y := fun x y hx hw => by
      obtain ⟨p, p1, p2⟩ := t5 x hx hw.2.2.1
      obtain ⟨r, r1, r2⟩ := t5 y hw.2.1 hw.2.2.2.2.2.2.1
      exact d5 q p p1 r r1 (by rw [p2, r2]; exact hw.2.2)
    obtain ⟨rch, que, e1⟩ := no_ring 198 0 (by decide) b4 b1 (TR_held hT) (fun p hp z => by
      obtain ⟨c, hc⟩ := ring_hd z
      exact hno p c hp hc)
    exact ⟨_, _, e, rfl, e1, RI_fr (C := cLF (cN C 32 (nI m)) 30 gA) (M := M) (fun _ _ _ => rfl) rfl rfl rfl rfl rfl rfl (fun _ _ _ => rfl) (fun k hk => by rw [mR_get, if_neg (by omega), mR_get, if_neg (by omega)]) hT.1, by have := t2.2; omega⟩
  · rw [if_neg (by rw [q]; decide)]
    have := t2.2
    obtain ⟨C', M', e', f1, f2, f3, f4⟩ := ring_loop 200 200 0 0 _ M n d e A hT (by decide) (by omega) (by omega) (by omega)
    exact ⟨C', M', e', f1, f2, f3, by omega⟩
