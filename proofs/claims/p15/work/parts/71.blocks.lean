/-- blocks and bars: alike, of an act o whose places are alike -/
theorem c_blocks {C : CS} {M : MS} {o a k : Nat} (hk : k < 2147483648) (hc : k / 100 % 100 < 24) (hoa : o ≠ a) (hs : gP C o 12 = M.2.1 11 o) (hl : M.2.1 11 o = 1 → ∀ c, c < 24 → gQ C o 5 c = M.2.1 23 (24 * o + c) ∧ ∃ h, h ≤ 2 ∧ M.2.1 23 (24 * o + c) = nI h) : ∃ r : Int32, f_X3_blocks o (nI k) C = some (r, C) ∧ (r = 0 ∨ r = 1) ∧ (r = 1 ↔ barsP M o a (k / 100 % 100) (if k / 10000 = 3 then 1 else 0)) := by
  unfold f_X3_blocks f_X3_aOf f_X3_opOf barsP
  rw [cel_nI hk, op_nI hk, hs]
  have q3 : nI (k / 10000) = (3 : Int32) ↔ k / 10000 = 3 := nIeq (a := k / 10000) (b := 3) (by omega) (by omega)
  by_cases h1 : M.2.1 11 o = 1
  · rw [if_pos h1, if_pos (ck (k / 100 % 100) 24 (by omega)), nc (k / 100 % 100) (by omega)]
    obtain ⟨e1, h, hh, e2⟩ := hl h1 (k / 100 % 100) hc
    rw [e1, e2]
    by_cases h3 : k / 10000 = 3
    · rw [if_pos (q3.mpr h3), if_pos h3]
      by_cases h4 : nI h = 0
      · rw [if_pos h4]; exact ⟨0, rfl, Or.inl rfl, by simp [h4]⟩
      · rw [if_neg h4]
        have hpos : ¬ nI h ≤ 0 := fun q => h4 (by have := (nIle (a := h) (b := 0) (by omega) (by omega)).mp q; rw [show h = 0 by omega]; rfl)
        exact ⟨1, rfl, Or.inr rfl, by simp [h1, hoa, hpos]⟩
    · rw [if_neg (fun q => h3 (q3.mp q)), if_neg h3]
      by_cases h4 : nI h = 2
      · rw [if_pos h4]; exact ⟨1, rfl, Or.inr rfl, by simp [h1, hoa, h4]⟩
      · rw [if_neg h4]; exact ⟨0, rfl, Or.inl rfl, by simp [h4]⟩
  · rw [if_neg h1]; exact ⟨0, rfl, Or.inl rfl, by simp [h1]⟩
