theorem cNA (C : CS) (f g : Nat → Int32) (v w : Int32) : cN (cAF (cN (cAF C 8 f) 14 v) 8 g) 14 w = cN (cAF C 8 g) 14 w := by
  simp only [cN, cAF, va_upup]
  congr 1
  funext i
  simp only [upd_get]
  split <;> rfl
/-- the row of acts that run: those that are begun, by rank and number -/
theorem c_gather_7 {C : CS} {M : MS} {n : Nat} {f : Nat → Nat} (h12 : C.1 12 = nI n) (hN : gN C = n) (hn : n ≤ 80) (hf1 : ∀ i, i < n → C.2.1 6 i = nI (f i) ∧ f i < n) (hf2 : ∀ x, x < n → ∃ i, i < n ∧ f i = x) (hf3 : ∀ i j, i < j → j < n → ahd M (f i) (f j)) (hs : ∀ a, a < n → gP C a 12 = M.2.1 11 a) (h36 : cntS M 1 n ≤ 36) (k i m : Nat) (run : Nat → Int32) (pos : Nat → Nat) (hk : n < k + i) (hi : i ≤ n) (J1 : ∀ q, q < m → run q = nI (f (pos q)) ∧ pos q < i ∧ M.2.1 11 (f (pos q)) = 1) (J2 : ∀ p, p < i → M.2.1 11 (f p) = 1 → ∃ q, q < m ∧ pos q = p) (J3 : ∀ q q', q < q' → q' < m → pos q < pos q') : ∃ (m' : Nat) (run' : Nat → Int32) (g : Nat → Nat), f_X3_gatherRunning_7 k (nI i) (cN (cAF C 8 run) 14 (nI m)) = some (0, cN (cAF C 8 run') 14 (nI m')) ∧ m' ≤ 36 ∧ Srt M 1 run' g m' n := by
  have inj : ∀ p p', p < p' → p' < n → f p ≠ f p' := fun p p' h1 h2 e => by
    have := hf3 p p' h1 h2; rw [e, ahd_iff] at this; omega
  induction k generalizing i m run pos with
  | zero => omega
  | succ k ih =>
    have hm36 : m ≤ 36 := Nat.le_trans (inj_le n m (fun q => f (pos q)) (fun q hq => ⟨(hf1 (pos q) (by have := (J1 q hq).2.1; omega)).2, (J1 q hq).2.2⟩) (fun q q' h1 h2 => inj _ _ (J3 q q' h1 h2) (by have := (J1 q' h2).2.1; omega))) h36
    rw [f_X3_gatherRunning_7]
    have e12 : (cN (cAF C 8 run) 14 (nI m)).1 12 = nI n := h12
    have e14 : (cN (cAF C 8 run) 14 (nI m)).1 14 = nI m := rfl
    have e6 : (cN (cAF C 8 run) 14 (nI m)).2.1 6 = C.2.1 6 := rfl
    have e8 : (cN (cAF C 8 run) 14 (nI m)).2.1 8 = run := rfl
    rw [e12, e14, e6, e8]
    have S13 : (∀ q, q < m → run q = nI (f (pos q)) ∧ f (pos q) < n ∧ M.2.1 11 (f (pos q)) = 1) ∧ (∀ q q', q < q' → q' < m → ahd M (f (pos q)) (f (pos q'))) := ⟨fun q hq => ⟨(J1 q hq).1, (hf1 (pos q) (by have := (J1 q hq).2.1; omega)).2, (J1 q hq).2.2⟩, fun q q' h1 h2 => hf3 _ _ (J3 q q' h1 h2) (by have := (J1 q' h2).2.1; omega)⟩
    by_cases h0 : n ≤ i
    · rw [if_pos (np_ h0 (by omega) (by omega))]
      refine ⟨m, run, fun q => f (pos q), rfl, hm36, S13.1, fun x hx hxs => ?_, S13.2⟩
      obtain ⟨p, hp, ep⟩ := hf2 x hx
      obtain ⟨q, hq, eq⟩ := J2 p (by omega) (by rw [ep]; exact hxs)
      exact ⟨q, hq, by show f (pos q) = x; rw [eq, ep]⟩
    · rw [if_neg (nn h0 (by omega) (by omega))]
      by_cases h1 : 36 ≤ m
      · rw [if_pos (show 36 ≤ nI m from np_ (a := 36) h1 (by omega) (by omega))]
        refine ⟨m, run, fun q => f (pos q), rfl, hm36, S13.1, fun x hx hxs => Classical.byContradiction (fun hno => ?_), S13.2⟩
        have := inj_le n (m + 1) (fun q => if q = m then x else f (pos q)) (fun q hq => by
            by_cases e : q = m
            · simp only [if_pos e]; exact ⟨hx, hxs⟩
            · simp only [if_neg e]; exact ⟨(S13.1 q (by omega)).2.1, (S13.1 q (by omega)).2.2⟩) (fun q q' hq hq' => by
            by_cases e : q' = m
            · simp only [if_pos e, if_neg (show ¬ q = m by omega)]; exact fun e2 => hno ⟨q, by omega, e2⟩
            · simp only [if_neg e, if_neg (show ¬ q = m by omega)]; exact inj _ _ (J3 q q' hq (by omega)) (by have := (J1 q' (by omega)).2.1; omega)) (h := 1)
        omega
      · rw [if_neg (show ¬ 36 ≤ nI m from nn (a := 36) h1 (by omega) (by omega)), if_pos (ck i 80 (by omega)), nc i (by omega), (hf1 i (by omega)).1]
        have hfi := (hf1 i (by omega)).2
        rw [nc (f i) (by omega), if_pos ⟨ck (f i) 80 (by omega), by show f i < gN C; omega⟩]
        have eP : gP (cN (cAF C 8 run) 14 (nI m)) (f i) 12 = M.2.1 11 (f i) := hs (f i) hfi
        rw [eP]
        by_cases h2 : M.2.1 11 (f i) = 1
        · rw [if_pos h2, if_pos (ck m 36 (by omega)), nc m (by omega), k_ls, k_ls, f_X3_gatherRunning_67]
          have e9 : (cAF (cN (cAF C 8 run) 14 (nI m)) 8 (upd run m (nI (f i)))).1 14 = nI m := rfl
          rw [e9, n1, nI_add, nI_add, cNA]
          refine ih (i + 1) (m + 1) (upd run m (nI (f i))) (fun q => if q = m then i else pos q) (by omega) (by omega) (fun q hq => ?_) (fun p hp hps => ?_) (fun q q' hq hq' => ?_)
          · show upd run m (nI (f i)) q = nI (f (if q = m then i else pos q)) ∧ (if q = m then i else pos q) < i + 1 ∧ M.2.1 11 (f (if q = m then i else pos q)) = 1
            rw [upd_get]
            by_cases e : q = m
            · rw [if_pos e, if_pos e]; exact ⟨rfl, by omega, h2⟩
            · rw [if_neg e, if_neg e]; have := J1 q (by omega); exact ⟨this.1, by omega, this.2.2⟩
          · by_cases e : p = i
            · exact ⟨m, by omega, by show (if m = m then i else pos m) = p; rw [if_pos rfl, e]⟩
            · obtain ⟨q, hq, eq⟩ := J2 p (by omega) hps
              exact ⟨q, by omega, by show (if q = m then i else pos q) = p; rw [if_neg (by omega), eq]⟩
          · show (if q = m then i else pos q) < (if q' = m then i else pos q')
            rw [if_neg (show ¬ q = m by omega)]
            by_cases e : q' = m
            · rw [if_pos e]; exact (J1 q (by omega)).2.1
            · rw [if_neg e]; exact J3 q q' hq (by omega)
        · rw [if_neg h2, f_X3_gatherRunning_67, n1, nI_add]
          exact ih (i + 1) m run pos (by omega) (by omega) (fun q hq => ⟨(J1 q hq).1, by have := (J1 q hq).2.1; omega, (J1 q hq).2.2⟩) (fun p hp hps => by
            by_cases e : p = i
            · subst e; exact absurd hps h2
            · exact J2 p (by omega) hps) J3
theorem c_gather {C : CS} {M : MS} {n t u d e kp fa : Nat} (h : ∀ i, RI C M n t u d e kp fa i) : ∃ (m : Nat) (run : Nat → Int32) (g : Nat → Nat), f_X3_gatherRunning C = some (0, cN (cAF C 8 run) 14 (nI m)) ∧ m ≤ 36 ∧ Srt M 1 run g m n := by
  obtain ⟨b1, b2, b3, b4⟩ : M.1 7 = nI n ∧ C.1 12 = nI n ∧ gN C = n ∧ n ≤ 80 := h 0
  obtain ⟨f, f1, f2, f3⟩ := h 13
  unfold f_X3_gatherRunning
  rw [k_ls]
  have := c_gather_7 (C := C) (M := M) b2 b3 b4 f1 f2 f3 (fun a ha => (h 12 a ha 4).1) (begun_36 h) 200 0 0 (C.2.1 8) (fun _ => 0) (by omega) (by omega) (fun q hq => by omega) (fun p hp => by omega) (fun q q' _ hq => by omega)
  rw [cAF_id] at this
  exact this
