theorem b_nI {k : Nat} (hk : k < 2147483648) : nI k - nI k / 100 * 100 = nI (k % 100) := pk_rem (a := k) (d := 100) (by omega) (by omega) (by omega)
theorem b50 : ∀ b, b < 100 → ((0 : Int32) ≤ nI b - 50 ↔ 50 ≤ b) := by decide +kernel
theorem opN {o j : Nat} (ho : o ≤ 100000) (hj : j ≤ 100000) : nI o = nI j ↔ o = j := nIeq (a := o) (b := j) (by omega) (by omega)
theorem c_uses {k : Nat} (hk : k < 2147483648) (h8 : k / 10000 ≤ 8) : f_X3_usesCell (nI k) = if k / 10000 = 0 ∨ k / 10000 = 3 ∨ k / 10000 = 4 then 1 else 0 := by
  unfold f_X3_usesCell f_X3_opOf
  rw [op_nI hk]
  generalize k / 10000 = o at *
  have hh : o = 0 ∨ o = 1 ∨ o = 2 ∨ o = 3 ∨ o = 4 ∨ o = 5 ∨ o = 6 ∨ o = 7 ∨ o = 8 := by omega
  rcases hh with rfl | rfl | rfl | rfl | rfl | rfl | rfl | rfl | rfl <;> rfl
/-- may the step be taken? alike -/
theorem can_same {C : CS} {M : MS} {n t u d e kp fa m a k : Nat} {g : Nat → Nat} (h : ∀ i, RI C M n t u d e kp fa i) (h14 : C.1 14 = nI m) (hm : m ≤ 36) (hrun : ∀ q, q < m → C.2.1 8 q = nI (g q) ∧ g q < n) (hall : ∀ x, x < n → M.2.1 11 x = 1 → ∃ q, q < m ∧ g q = x) (ha : a < n) (hk : k < 2147483648) (hsk : sk k) : ∃ r : Int32, f_X3_canBe (nI a) (nI k) C = some (r, C) ∧ (r = 0 ∨ r = 1) ∧ f_X4_canDo (nI a) (nI (k / 10000)) (nI (k / 100 % 100)) (nI (k % 100)) M = some (r, M) ∧ (r = 0 → k / 10000 = 0 ∨ k / 10000 = 3 ∨ k / 10000 = 4 ∨ k / 10000 = 6) := by
  obtain ⟨b1, b2, b3, b4⟩ : M.1 7 = nI n ∧ C.1 12 = nI n ∧ gN C = n ∧ n ≤ 80 := h 0
  obtain ⟨s1, s2, s3⟩ := hsk
  have cell : ∀ w : Int32, w = (if k / 10000 = 3 then 1 else 0) → (k / 10000 = 0 ∨ k / 10000 = 3 ∨ k / 10000 = 4) → ∃ r : Int32, f_X3_canBe_62 200 (nI a) (nI k) 0 C = some (r, C) ∧ (r = 0 ∨ r = 1) ∧ f_X4_isFree (nI a) (nI (k / 100 % 100)) w M = some (r, M) := by
    intro w hw ho
    obtain ⟨r, e1, e2, e3⟩ := c_canBe_62 (C := C) (M := M) (n := n) (m := m) (a := a) (k := k) (g := g) b4 b3 (by omega) h14 hm hrun hk (s2 ho) (fun o ho => (h 12 o ho 4).1) (fun o ho hs c hc => by
      obtain ⟨l, s, q, -, -, -, -, -, -, -, -, -, -, -, -, -, -, gg, -⟩ := h 12 o ho 6 hs
      exact ⟨(gg c hc).1, (gg c hc).2.1⟩) 200 0 (by omega) (by omega)
    obtain ⟨r2, f1, f2, f3⟩ := m_isFree (M := M) (n := n) (a := a) (c := k / 100 % 100) (w := w) b1 b4 (by omega) (s2 ho)
    have : r = 0 ↔ r2 = 0 := e3.trans (Iff.trans ⟨fun ⟨q, _, q2, q3⟩ => ⟨g q, (hrun q q2).2, by rw [hw]; exact q3⟩, fun ⟨x, x1, x2⟩ => by
      obtain ⟨q, q1, q2⟩ := hall x x1 x2.2.1
      exact ⟨q, by omega, q1, by rw [q2, ← hw]; exact x2⟩⟩ f3.symm)
    have er : r = r2 := by
      rcases e2 with q | q <;> rcases f2 with q2 | q2
      · rw [q, q2]
      · rw [this.mp q] at q2; exact absurd q2 (by decide)
      · rw [this.mpr q2] at q; exact absurd q (by decide)
      · rw [q, q2]
    exact ⟨r, e1, e2, by rw [er]; exact f1⟩
  have a1 : ∀ r : Int32, (r = 0 ∨ r = 1) → r &&& 1 = r := fun r hr => by rcases hr with rfl | rfl <;> decide
  unfold f_X3_canBe f_X4_canDo f_X4_canDo_9
  rw [c_uses hk s1]
  unfold f_X3_opOf f_X3_aOf f_X3_bOf
  rw [op_nI hk, cel_nI hk, b_nI hk]
  have hh : k / 10000 = 0 ∨ k / 10000 = 1 ∨ k / 10000 = 2 ∨ k / 10000 = 3 ∨ k / 10000 = 4 ∨ k / 10000 = 5 ∨ k / 10000 = 6 ∨ k / 10000 = 7 ∨ k / 10000 = 8 := by omega
  rcases hh with o | o | o | o | o | o | o | o | o
  · obtain ⟨r, e1, e2, e3⟩ := cell 0 (by rw [o]; rfl) (by omega)
    rw [o, if_neg (by decide), if_neg (by decide), if_pos (by decide), e3, k_bs, if_pos (a1 r e2)]
    exact ⟨r, e1, e2, rfl, fun _ => by omega⟩
  · rw [o]; exact ⟨1, rfl, Or.inr rfl, rfl, fun q => absurd q (by decide)⟩
  · rw [o]; exact ⟨1, rfl, Or.inr rfl, rfl, fun q => absurd q (by decide)⟩
  · obtain ⟨r, e1, e2, e3⟩ := cell 1 (by rw [o]; rfl) (by omega)
    rw [o, if_neg (by decide), if_neg (by decide), if_neg (by decide), if_neg (by decide), if_pos (by decide), e3, k_bs, if_pos (a1 r e2)]
    exact ⟨r, e1, e2, rfl, fun _ => by omega⟩
  · obtain ⟨r, e1, e2, e3⟩ := cell 0 (by rw [o]; rfl) (by omega)
    rw [o, if_neg (by decide), if_neg (by decide), if_neg (by decide), if_pos (by decide), e3, k_bs, if_pos (a1 r e2)]
    exact ⟨r, e1, e2, rfl, fun _ => by omega⟩
  · rw [o]; exact ⟨1, rfl, Or.inr rfl, rfl, fun q => absurd q (by decide)⟩
  · have hc : k / 100 % 100 < 8 := s3 (by omega)
    rw [o, if_pos (show nI 6 = 6 from rfl), if_neg (show ¬ nI 6 = 0 by decide), if_neg (show ¬ nI 6 = 4 by decide), if_neg (show ¬ nI 6 = 3 by decide), if_pos (show nI 6 = 6 from rfl)]
    have hb := b50 (k % 100) (by omega)
    have hb2 : (50 : Int32) ≤ nI (k % 100) ↔ 50 ≤ k % 100 := nIle (a := 50) (b := k % 100) (by omega) (by omega)
    by_cases q : 50 ≤ k % 100
    · rw [if_pos (hb.mpr q), if_pos (hb2.mpr q)]; exact ⟨1, rfl, Or.inr rfl, rfl, fun q => absurd q (by decide)⟩
    · rw [if_neg (fun x => q (hb.mp x)), if_neg (fun x => q (hb2.mp x)), c_least h hc, m_least b1 b4 hc, k_bs, k_bs, if_pos (ck (k / 100 % 100) 8 (by omega)), if_pos (ck (k / 100 % 100) 8 (by omega)), nc (k / 100 % 100) (by omega), h 9 (k / 100 % 100) hc]
      have e1 : ∀ x y : Int32, x + (y - 50) = x + y - 50 := fun x y => by rw [Int32.sub_eq_add_neg, Int32.sub_eq_add_neg, Int32.add_assoc]
      rw [e1]
      by_cases q2 : mSum M (k / 100 % 100) n 0 (M.2.1 2 (k / 100 % 100)) + nI (k % 100) - 50 < M.2.1 3 (k / 100 % 100)
      · rw [if_pos q2, if_pos q2]; exact ⟨0, rfl, Or.inl rfl, rfl, fun _ => by omega⟩
      · rw [if_neg q2, if_neg q2]; exact ⟨1, rfl, Or.inr rfl, rfl, fun q => absurd q (by decide)⟩
  · rw [o]; exact ⟨1, rfl, Or.inr rfl, rfl, fun q => absurd q (by decide)⟩
  · rw [o]; exact ⟨1, rfl, Or.inr rfl, rfl, fun q => absurd q (by decide)⟩
