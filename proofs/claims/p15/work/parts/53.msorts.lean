theorem ahd_iff {M : MS} {a b : Nat} : ahd M a b ↔ ((M.2.1 10 a).toInt < (M.2.1 10 b).toInt ∨ ((M.2.1 10 a).toInt = (M.2.1 10 b).toInt ∧ a < b)) := by
  unfold ahd
  rw [Int32.lt_iff_toInt_lt, Int32.toInt_inj]
/-- the first m places of a row are the acts below b in the state h, by rank and number -/
def Srt (M : MS) (h : Int32) (od : Nat → Int32) (f : Nat → Nat) (m b : Nat) : Prop := (∀ i, i < m → od i = nI (f i) ∧ f i < b ∧ M.2.1 11 (f i) = h) ∧ (∀ x, x < b → M.2.1 11 x = h → ∃ i, i < m ∧ f i = x) ∧ ∀ i j, i < j → j < m → ahd M (f i) (f j)
theorem Srt_ins {M : MS} {h : Int32} {od : Nat → Int32} {f : Nat → Nat} {m a k : Nat} (S : Srt M h od f m a) (hs : M.2.1 11 a = h) (hk : k ≤ m) (h1 : ∀ i, k ≤ i → i < m → ahd M a (f i)) (h2 : k = 0 ∨ ¬ ahd M a (f (k - 1))) : Srt M h (upd (shf od k m) k (nI a)) (fun i => if i < k then f i else if i = k then a else f (i - 1)) (m + 1) (a + 1) := by
  obtain ⟨S1, S2, S3⟩ := S
  have hb : ∀ i, i < k → ahd M (f i) a := by
    intro i hi
    rcases h2 with h2 | h2
    · omega
    · have hlt := (S1 (k - 1) (by omega)).2.1
      have e : ahd M (f (k - 1)) a := by rw [ahd_iff] at h2 ⊢; omega
      by_cases hik : i = k - 1
      · rw [hik]; exact e
      · have e2 := S3 i (k - 1) (by omega) (by omega)
        rw [ahd_iff] at e e2 ⊢; omega
  refine ⟨fun i hi => ?_, fun x hx hsx => ?_, fun i j hij hj => ?_⟩
  · show upd (shf od k m) k (nI a) i = nI (if i < k then f i else if i = k then a else f (i - 1)) ∧ (if i < k then f i else if i = k then a else f (i - 1)) < a + 1 ∧ M.2.1 11 (if i < k then f i else if i = k then a else f (i - 1)) = h
    rw [upd_get]
    by_cases q1 : i < k
    · have := S1 i (by omega)
      rw [if_neg (by omega), if_pos q1]; simp only [shf]; rw [if_neg (by omega)]
      exact ⟨this.1, by omega, this.2.2⟩
    · by_cases q2 : i = k
      · rw [if_pos q2, if_neg q1, if_pos q2]; exact ⟨rfl, by omega, hs⟩
      · have := S1 (i - 1) (by omega)
        rw [if_neg q2, if_neg q1, if_neg q2]; simp only [shf]; rw [if_pos (by omega)]
        exact ⟨this.1, by omega, this.2.2⟩
  · by_cases hxa : x = a
    · exact ⟨k, by omega, by show (if k < k then f k else if k = k then a else f (k - 1)) = x; rw [if_neg (by omega), if_pos rfl, hxa]⟩
    · obtain ⟨i, hi, e⟩ := S2 x (by omega) hsx
      by_cases q1 : i < k
      · exact ⟨i, by omega, by show (if i < k then f i else if i = k then a else f (i - 1)) = x; rw [if_pos q1, e]⟩
      · exact ⟨i + 1, by omega, by show (if i + 1 < k then f (i + 1) else if i + 1 = k then a else f (i + 1 - 1)) = x; rw [if_neg (by omega), if_neg (by omega), Nat.add_sub_cancel, e]⟩
  · show ahd M (if i < k then f i else if i = k then a else f (i - 1)) (if j < k then f j else if j = k then a else f (j - 1))
    by_cases q1 : j < k
    · rw [if_pos q1, if_pos (by omega)]; exact S3 i j hij (by omega)
    · rw [if_neg q1]
      by_cases q2 : j = k
      · rw [if_pos q2, if_pos (by omega)]; exact hb i (by omega)
      · rw [if_neg q2]
        by_cases q3 : i < k
        · rw [if_pos q3]
          have e1 := hb i q3
          have e2 := h1 (j - 1) (by omega) (by omega)
          rw [ahd_iff] at e1 e2 ⊢; omega
        · rw [if_neg q3]
          by_cases q4 : i = k
          · rw [if_pos q4]; exact h1 (j - 1) (by omega) (by omega)
          · rw [if_neg q4]; exact S3 (i - 1) (j - 1) (by omega) (by omega)
theorem Srt_no {M : MS} {h : Int32} {od : Nat → Int32} {f : Nat → Nat} {m a : Nat} (S : Srt M h od f m a) (hs : ¬ M.2.1 11 a = h) : Srt M h od f m (a + 1) := by
  obtain ⟨S1, S2, S3⟩ := S
  exact ⟨fun i hi => ⟨(S1 i hi).1, by have := (S1 i hi).2.1; omega, (S1 i hi).2.2⟩, fun x hx hsx => by
    by_cases e : x = a
    · subst e; exact absurd hsx hs
    · exact S2 x (by omega) hsx, S3⟩
theorem Srt_R {M : MS} {h : Int32} {od g : Nat → Int32} {f : Nat → Nat} {m b : Nat} (S : Srt M h od f m b) : Srt (mR M 36 g) h od f m b := S
theorem m_sorts_4 {h : Int32} {n : Nat} (hn80 : n ≤ 80) (fu : Nat) (m a : Nat) (M : MS) (f : Nat → Nat) (hn : M.1 7 = nI n) (hf : n < fu + a) (ha : a ≤ n) (hm : m ≤ a) (S : Srt M h (M.2.1 36) f m a) : ∃ (m' : Nat) (f' : Nat → Nat) (od' : Nat → Int32), f_X4_sorts_4 fu h (nI m) (nI a) M = some (nI m', mR M 36 od') ∧ m' ≤ n ∧ Srt M h od' f' m' n := by
  induction fu generalizing m a M f with
  | zero => omega
  | succ fu ih =>
    rw [f_X4_sorts_4, hn]
    by_cases h0 : n ≤ a
    · rw [if_pos (np_ h0 (by omega) (by omega))]
      have : a = n := by omega
      subst this
      exact ⟨m, f, M.2.1 36, by rw [mR_id], hm, S⟩
    · rw [if_neg (nn h0 (by omega) (by omega)), if_pos (ck a 80 (by omega)), nc a (by omega)]
      by_cases hs : M.2.1 11 a = h
      · rw [if_pos hs]
        obtain ⟨k', e1, e2, e3, e4⟩ := m_sorts_28 (M := M) (K := fun v1 v2 v3 M => f_X4_sorts_4 fu v1 v2 v3 M) (h := h) (od := M.2.1 36) (f := f) (m := m) (a := a) (by omega) (by omega) (fun i hi => ⟨(S.1 i hi).1, by have := (S.1 i hi).2.1; omega⟩) 200 m (by omega) (Nat.le_refl _)
        rw [shf_m, mR_id] at e2
        rw [e2]
        obtain ⟨m', f', od', g1, g2, g3⟩ := ih (m + 1) (a + 1) (mR M 36 (upd (shf (M.2.1 36) k' m) k' (nI a))) _ hn (by omega) (by omega) (by omega) (Srt_R (Srt_ins S hs e1 e3 e4))
        refine ⟨m', f', od', ?_, g2, g3⟩
        show f_X4_sorts_4 fu h (nI (m + 1)) (nI (a + 1)) _ = _
        rw [g1, mR_R]
      · rw [if_neg hs, f_X4_sorts_83, n1, nI_add]
        exact ih m (a + 1) M f hn (by omega) (by omega) (by omega) (Srt_no S hs)
theorem m_sorts {h : Int32} {n : Nat} {M : MS} (hn80 : n ≤ 80) (hn : M.1 7 = nI n) : ∃ (m : Nat) (f : Nat → Nat) (od : Nat → Int32), f_X4_sorts h M = some (nI m, mR M 36 od) ∧ m ≤ n ∧ Srt M h od f m n := by
  unfold f_X4_sorts
  exact m_sorts_4 hn80 200 0 0 M (fun _ => 0) hn (by omega) (by omega) (Nat.le_refl _) ⟨fun i hi => by omega, fun x hx => by omega, fun i j _ hj => by omega⟩
/-- two such rows are alike -/
theorem Srt_uni {M : MS} {h : Int32} {od od2 : Nat → Int32} {f f2 : Nat → Nat} {m m2 b : Nat} (S : Srt M h od f m b) (T : Srt M h od2 f2 m2 b) : m = m2 ∧ ∀ i, i < m → f i = f2 i := by
  have ir : ∀ x, ¬ ahd M x x := fun x q => by rw [ahd_iff] at q; omega
  have tr : ∀ x y, ahd M x y → ¬ ahd M y x := fun x y q r => by rw [ahd_iff] at q r; omega
  have key : ∀ i, i < m → i < m2 → (∀ j, j < i → f j = f2 j) → f i = f2 i := by
    intro i h1 h2 hj
    obtain ⟨i2, g1, g2⟩ := T.2.1 (f i) (S.1 i h1).2.1 (S.1 i h1).2.2
    obtain ⟨i3, g3, g4⟩ := S.2.1 (f2 i) (T.1 i h2).2.1 (T.1 i h2).2.2
    have a1 : ¬ i2 < i := fun q => by
      have e := hj i2 q; rw [g2] at e
      have := S.2.2 i2 i q h1; rw [e] at this; exact ir _ this
    have a2 : ¬ i3 < i := fun q => by
      have e := hj i3 q; rw [g4] at e
      have := T.2.2 i3 i q h2; rw [← e] at this; exact ir _ this
    by_cases b1 : i2 = i
    · rw [b1] at g2; exact g2.symm
    · by_cases b2 : i3 = i
      · rw [b2] at g4; exact g4
      · have c1 := T.2.2 i i2 (by omega) g1
        have c2 := S.2.2 i i3 (by omega) g3
        rw [g2] at c1; rw [g4] at c2
        exact absurd c2 (tr _ _ c1)
  have all : ∀ i, i < m → i < m2 → f i = f2 i := by
    intro i
    induction i using Nat.strongRecOn with
    | ind i ih => exact fun h1 h2 => key i h1 h2 (fun j hj => ih j hj (by omega) (by omega))
  have le1 : m ≤ m2 := Classical.byContradiction (fun q => by
    obtain ⟨i2, g1, g2⟩ := T.2.1 (f m2) (S.1 m2 (by omega)).2.1 (S.1 m2 (by omega)).2.2
    have e := all i2 (by omega) g1
    have := S.2.2 i2 m2 g1 (by omega)
    rw [e, g2] at this; exact ir _ this)
  have le2 : m2 ≤ m := Classical.byContradiction (fun q => by
    obtain ⟨i2, g1, g2⟩ := S.2.1 (f2 m) (T.1 m (by omega)).2.1 (T.1 m (by omega)).2.2
    have e := all i2 g1 (by omega)
    have := T.2.2 i2 m g1 (by omega)
    rw [← e, g2] at this; exact ir _ this)
  exact ⟨by omega, fun i hi => all i hi (by omega)⟩
