theorem c_canBe_62 {C : CS} {M : MS} {n m a k : Nat} {g : Nat → Nat} (hn : n ≤ 80) (hN : gN C = n) (ha : a < 80) (h14 : C.1 14 = nI m) (hm : m ≤ 36) (hrun : ∀ q, q < m → C.2.1 8 q = nI (g q) ∧ g q < n) (hk : k < 2147483648) (hc : k / 100 % 100 < 24) (hs : ∀ o, o < n → gP C o 12 = M.2.1 11 o) (hl : ∀ o, o < n → M.2.1 11 o = 1 → ∀ c, c < 24 → gQ C o 5 c = M.2.1 23 (24 * o + c) ∧ ∃ h, h ≤ 2 ∧ M.2.1 23 (24 * o + c) = nI h) (fu i : Nat) (hf : m < fu + i) (hi : i ≤ m) : ∃ r : Int32, f_X3_canBe_62 fu (nI a) (nI k) (nI i) C = some (r, C) ∧ (r = 0 ∨ r = 1) ∧ (r = 0 ↔ ∃ q, i ≤ q ∧ q < m ∧ barsP M (g q) a (k / 100 % 100) (if k / 10000 = 3 then 1 else 0)) := by
  induction fu generalizing i with
  | zero => omega
  | succ fu ih =>
    rw [f_X3_canBe_62, h14]
    by_cases h0 : m ≤ i
    · rw [if_pos (np_ h0 (by omega) (by omega))]
      exact ⟨1, rfl, Or.inr rfl, fun q => absurd q (by decide), fun ⟨q, h1, h2, _⟩ => by omega⟩
    · obtain ⟨er, hg⟩ := hrun i (by omega)
      rw [if_neg (nn h0 (by omega) (by omega)), if_pos (ck i 36 (by omega)), nc i (by omega), er]
      have nx : ¬ barsP M (g i) a (k / 100 % 100) (if k / 10000 = 3 then 1 else 0) → ∃ r : Int32, f_X3_canBe_100 (fun v1 v2 v3 C => f_X3_canBe_62 fu v1 v2 v3 C) (nI a) (nI k) (nI i) C = some (r, C) ∧ (r = 0 ∨ r = 1) ∧ (r = 0 ↔ ∃ q, i ≤ q ∧ q < m ∧ barsP M (g q) a (k / 100 % 100) (if k / 10000 = 3 then 1 else 0)) := by
        intro hno
        obtain ⟨r, g1, g2, g3⟩ := ih (i + 1) (by omega) (by omega)
        refine ⟨r, by rw [f_X3_canBe_100, n1, nI_add]; exact g1, g2, g3.trans ⟨fun ⟨q, q1, q2, q3⟩ => ⟨q, by omega, q2, q3⟩, fun ⟨q, q1, q2, q3⟩ => ⟨q, ?_, q2, q3⟩⟩⟩
        by_cases e : q = i
        · subst e; exact absurd q3 hno
        · omega
      by_cases h1 : g i = a
      · rw [if_pos (by rw [h1])]; exact nx (fun q => q.1 h1)
      · rw [if_neg (fun q => h1 ((nIeq (by omega) (by omega)).mp q)), nc (g i) (by omega), if_pos ⟨ck (g i) 80 (by omega), by omega⟩]
        obtain ⟨r, e1, e2, e3⟩ := c_blocks (C := C) (M := M) (o := g i) (a := a) hk hc h1 (hs _ hg) (hl _ hg)
        rw [e1, k_bs]
        by_cases hr : r = 0
        · rw [if_pos hr]; exact nx (fun q => by rw [hr] at e3; exact absurd (e3.mpr q) (by decide))
        · rw [if_neg hr]
          exact ⟨0, rfl, Or.inl rfl, by simp only [true_iff]; exact ⟨i, by omega, by omega, e3.mp (e2.resolve_left hr)⟩⟩
