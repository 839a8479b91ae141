/-! ===== the fall: the reference ===== -/
def LX (M : MS) (E i a : Nat) : Prop := ∃ j, E ≤ j ∧ j < i ∧ M.2.1 33 (4 * j) = 2 ∧ M.2.1 33 (4 * j + 1) = nI a
def SX (M : MS) (E i a : Nat) : Prop := ∃ j, E ≤ j ∧ j < i ∧ M.2.1 33 (4 * j) = 3 ∧ M.2.1 33 (4 * j + 1) = nI a
def VX (M : MS) (E i a : Nat) : Prop := ∃ p, p < 80 ∧ LX M E i p ∧ M.2.1 19 a = nI p
/-- how many of the first n -/
noncomputable def cp (P : Nat → Prop) : Nat → Nat
  | 0 => 0
  | n + 1 => cp P n + @ite Nat (P n) (Classical.propDecidable (P n)) 1 0
theorem cp_y {P : Nat → Prop} {n : Nat} (h : P n) : cp P (n + 1) = cp P n + 1 := by
  simp only [cp]; rw [if_pos h]
theorem cp_n {P : Nat → Prop} {n : Nat} (h : ¬ P n) : cp P (n + 1) = cp P n := by
  simp only [cp]; rw [if_neg h]; omega
theorem cp_mono {P : Nat → Prop} {a b : Nat} (h : a ≤ b) : cp P a ≤ cp P b := by
  induction b with
  | zero => rw [show a = 0 by omega]; exact Nat.le_refl _
  | succ b ih =>
    by_cases e : a = b + 1
    · rw [e]; exact Nat.le_refl _
    · have := ih (by omega)
      by_cases z : P b
      · rw [cp_y z]; omega
      · rw [cp_n z]; exact this
theorem cp_del {Q : Nat → Prop} {x : Nat} (B : Nat) (hx : x < B) (hq : Q x) : cp (fun j => Q j ∧ j ≠ x) B + 1 = cp Q B := by
  have same : ∀ m, m ≤ x → cp (fun j => Q j ∧ j ≠ x) m = cp Q m := by
    intro m
    induction m with
    | zero => intro _; rfl
    | succ m ih =>
      intro hm
      have := ih (by omega)
      by_cases z : Q m
      · rw [cp_y z, cp_y (P := fun j => Q j ∧ j ≠ x) ⟨z, by omega⟩, this]
      · rw [cp_n z, cp_n (P := fun j => Q j ∧ j ≠ x) (fun q => z q.1), this]
  induction B with
  | zero => omega
  | succ B ih =>
    by_cases e : x = B
    · subst e
      rw [cp_y hq, cp_n (P := fun j => Q j ∧ j ≠ x) (fun q => q.2 rfl), same x (Nat.le_refl _)]
    · have := ih (by omega)
      by_cases z : Q B
      · rw [cp_y z, cp_y (P := fun j => Q j ∧ j ≠ x) ⟨z, fun q => e q.symm⟩]; omega
      · rw [cp_n z, cp_n (P := fun j => Q j ∧ j ≠ x) (fun q => z q.1)]; exact this
theorem cp_le {P : Nat → Prop} (A B : Nat) (f : Nat → Nat) : ∀ Q : Nat → Prop, (∀ i, i < A → P i → f i < B ∧ Q (f i)) → (∀ i j, i < j → j < A → P i → P j → f i ≠ f j) → cp P A ≤ cp Q B := by
  induction A with
  | zero => intro Q _ _; exact Nat.zero_le _
  | succ A ih =>
    intro Q h1 h2
    by_cases z : P A
    · obtain ⟨g1, g2⟩ := h1 A (by omega) z
      have e1 := cp_del (Q := Q) B g1 g2
      have e2 := ih (fun j => Q j ∧ j ≠ f A) (fun i hi hp => ⟨(h1 i (by omega) hp).1, (h1 i (by omega) hp).2, h2 i A hi (by omega) hp z⟩) (fun i j hij hj => h2 i j hij (by omega))
      rw [cp_y z]; omega
    · rw [cp_n z]; exact ih Q (fun i hi => h1 i (by omega)) (fun i j hij hj => h2 i j hij (by omega))
/-- a frame: what the fall's clears leave alone -/
def TF (Z : Nat → Prop) (M0 M : MS) : Prop := (∀ k, (k ≤ 10 ∨ k = 12 ∨ k = 13 ∨ k = 19 ∨ k = 20 ∨ k = 24 ∨ k = 27 ∨ 29 ≤ k) → M.2.1 k = M0.2.1 k) ∧ M.2.2 = M0.2.2 ∧ ∀ a, ¬ Z a → (∀ c, c < 24 → M.2.1 23 (24 * a + c) = M0.2.1 23 (24 * a + c)) ∧ (∀ c, c < 8 → M.2.1 25 (8 * a + c) = M0.2.1 25 (8 * a + c)) ∧ M.2.1 16 a = M0.2.1 16 a
theorem TF_rf (Z : Nat → Prop) (M : MS) : TF Z M M := ⟨fun _ _ => rfl, rfl, fun _ _ => ⟨fun _ _ => rfl, fun _ _ => rfl, rfl⟩⟩
theorem TF_clr {Z : Nat → Prop} {M0 M : MS} {a : Nat} (h : TF Z M0 M) (ha : Z a) : TF Z M0 (mClr a M) := by
  obtain ⟨h1, h2, h3⟩ := h
  have m := (MA_clr a M).2.2
  refine ⟨fun k hk => by rw [mClr_r (by omega)]; exact h1 k hk, h2, fun b hb => ?_⟩
  have ne : b ≠ a := fun e => hb (by rw [e]; exact ha)
  obtain ⟨g1, g2, g3⟩ := h3 b hb
  exact ⟨fun c hc => by rw [m 23 _ (noAt24 ne (by omega) hc)]; exact g1 c hc, fun c hc => by rw [m 25 _ (noAt8 ne (by omega) hc)]; exact g2 c hc, by rw [m 16 b (noAt1 ne (by omega))]; exact g3⟩
theorem TF_A {Z : Nat → Prop} {M0 M : MS} {k i : Nat} {v : Int32} (h : TF Z M0 M) (hk : k = 11 ∨ k = 17 ∨ k = 18 ∨ k = 21 ∨ k = 22) : TF Z M0 (mA M k i v) := by
  obtain ⟨h1, h2, h3⟩ := h
  refine ⟨fun j hj => by rw [mA_ne (by omega)]; exact h1 j hj, h2, fun b hb => ?_⟩
  rw [mA_ne (j := 23) (by omega), mA_ne (j := 25) (by omega), mA_ne (j := 16) (by omega)]; exact h3 b hb
theorem TF_R {Z : Nat → Prop} {M0 M : MS} {k : Nat} {f : Nat → Int32} (h : TF Z M0 M) (hk : k = 11 ∨ k = 17 ∨ k = 18 ∨ k = 21 ∨ k = 22) : TF Z M0 (mR M k f) := by
  obtain ⟨h1, h2, h3⟩ := h
  have e : ∀ j, j ≠ k → (mR M k f).2.1 j = M.2.1 j := fun j hj => by rw [mR_get, if_neg hj]
  refine ⟨fun j hj => by rw [e j (by omega)]; exact h1 j hj, h2, fun b hb => ?_⟩
  rw [e 23 (by omega), e 25 (by omega), e 16 (by omega)]; exact h3 b hb
theorem TF_I {Z : Nat → Prop} {M0 M : MS} {k : Nat} {v : Int32} (h : TF Z M0 M) : TF Z M0 (mI M k v) := h
theorem mA_at {M : MS} {k i j : Nat} {v : Int32} : (mA M k i v).2.1 k j = if j = i then v else M.2.1 k j := by rw [mA_eq, upd_get]
/-- the first phase: what was begun waits again -/
def F1 (Z : Nat → Prop) (M0 M : MS) (b : Nat) : Prop := TF Z M0 M ∧ M.1 = M0.1 ∧ (∀ k, k = 17 ∨ k = 18 ∨ k = 21 → M.2.1 k = M0.2.1 k) ∧ (∀ a, (a < b ∧ M0.2.1 11 a = 1 → M.2.1 11 a = 0) ∧ (¬ (a < b ∧ M0.2.1 11 a = 1) → M.2.1 11 a = M0.2.1 11 a)) ∧ ∀ a, a < b → (M.2.1 22 a = 0 ∨ M.2.1 22 a = 1) ∧ (M.2.1 22 a = 1 ↔ M0.2.1 11 a = 1)
theorem m_fall_31 {Z : Nat → Prop} {M0 : MS} {n : Nat} {v2 v3 : Int32} (hn80 : n ≤ 80) (hn : M0.1 7 = nI n) (hZ : ∀ a, a < n → M0.2.1 11 a = 1 → Z a) (k b : Nat) (M : MS) (hk : n < k + b) (hb : b ≤ n) (h : F1 Z M0 M b) : ∃ M', f_X4_fall_31 k v2 v3 (nI b) M = f_X4_fall_93 3000000 v2 v3 v2 M' ∧ F1 Z M0 M' n := by
  induction k generalizing b M with
  | zero => omega
  | succ k ih =>
    obtain ⟨h1, h2, h3, h4, h5⟩ := id h
    rw [f_X4_fall_31, h2, hn]
    by_cases h0 : n ≤ b
    · rw [if_pos (np_ h0 (by omega) (by omega))]
      have : b = n := by omega
      subst this
      exact ⟨M, rfl, h⟩
    · rw [if_neg (nn h0 (by omega) (by omega)), if_pos (ck b 80 (by omega)), nc b (by omega), k_ls, show (mA M 22 b 0).2.1 11 b = M0.2.1 11 b from by rw [mA_ne (by omega)]; exact (h4 b).2 (by omega)]
      by_cases hs : M0.2.1 11 b = 1
      · rw [if_pos hs, m_clears (by omega), k_bs, k_ls, k_ls, f_X4_fall_84, n1, nI_add]
        refine ih (b + 1) _ (by omega) (by omega) ⟨TF_A (TF_A (TF_clr (TF_A h1 (by omega)) (hZ b (by omega) hs)) (by omega)) (by omega), h2, fun j hj => ?_, fun a => ?_, fun a ha => ?_⟩
        · rw [mA_ne (by omega), mA_ne (by omega), mClr_r (by omega), mA_ne (by omega)]; exact h3 j hj
        · rw [mA_ne (by omega), mA_at, mClr_r (by omega), mA_ne (by omega)]
          by_cases e : a = b
          · subst e; rw [if_pos rfl]; exact ⟨fun _ => rfl, fun q => absurd ⟨by omega, hs⟩ q⟩
          · rw [if_neg e]; exact ⟨fun q => (h4 a).1 ⟨by omega, q.2⟩, fun q => (h4 a).2 (fun z => q ⟨by omega, z.2⟩)⟩
        · rw [mA_at]
          by_cases e : a = b
          · subst e; rw [if_pos rfl]; exact ⟨Or.inr rfl, fun _ => hs, fun _ => rfl⟩
          · rw [if_neg e, mA_ne (by omega), mClr_r (by omega), mA_at, if_neg e]; exact h5 a (by omega)
      · rw [if_neg hs, f_X4_fall_84, n1, nI_add]
        refine ih (b + 1) _ (by omega) (by omega) ⟨TF_A h1 (by omega), h2, fun j hj => by rw [mA_ne (by omega)]; exact h3 j hj, fun a => ?_, fun a ha => ?_⟩
        · rw [mA_ne (by omega)]
          exact ⟨fun q => (h4 a).1 ⟨by
            by_cases e : a = b
            · subst e; exact absurd q.2 hs
            · omega, q.2⟩, fun q => (h4 a).2 (fun z => q ⟨by omega, z.2⟩)⟩
        · rw [mA_at]
          by_cases e : a = b
          · subst e; rw [if_pos rfl]; exact ⟨Or.inl rfl, fun q => absurd q (by decide), fun q => absurd q hs⟩
          · rw [if_neg e]; exact h5 a (by omega)
/-- whose parent is lost is void -/
theorem m_fall_223 {n p : Nat} {K93 : Int32 → Int32 → Int32 → MS → Option (Int32 × MS)} {v2 v3 v4 : Int32} (hn80 : n ≤ 80) (M0 : MS) (hn : M0.1 7 = nI n) (k b : Nat) (f : Nat → Int32) (hk : n < k + b) (hb : b ≤ n) (h1 : ∀ a, a < b → (f a = 0 ∨ f a = 1) ∧ (f a = 1 ↔ (M0.2.1 21 a ≠ 0 ∨ M0.2.1 19 a = nI p))) (h2 : ∀ a, b ≤ a → f a = M0.2.1 21 a) : ∃ f' : Nat → Int32, f_X4_fall_223 K93 k v2 v3 v4 (nI p) 1 (nI b) (mR M0 21 f) = f_X4_fall_277 K93 v2 v3 v4 (mR M0 21 f') ∧ (∀ a, a < n → (f' a = 0 ∨ f' a = 1) ∧ (f' a = 1 ↔ (M0.2.1 21 a ≠ 0 ∨ M0.2.1 19 a = nI p))) ∧ ∀ a, n ≤ a → f' a = M0.2.1 21 a := by
  induction k generalizing b f with
  | zero => omega
  | succ k ih =>
    rw [f_X4_fall_223, show (mR M0 21 f).1 7 = nI n from hn]
    by_cases h0 : n ≤ b
    · rw [if_pos (np_ h0 (by omega) (by omega))]
      have : b = n := by omega
      subst this
      exact ⟨f, rfl, h1, h2⟩
    · rw [if_neg (nn h0 (by omega) (by omega)), if_neg (show ¬ (1 : Int32) = 0 by decide), if_pos (ck b 80 (by omega)), nc b (by omega), show (mR M0 21 f).2.1 21 b = M0.2.1 21 b from h2 b (Nat.le_refl _), show (mR M0 21 f).2.1 19 b = M0.2.1 19 b from rfl]
      have nx : ∀ s : Int32, (s = 0 ∨ s = 1) → (s = 1 ↔ (M0.2.1 21 b ≠ 0 ∨ M0.2.1 19 b = nI p)) → ∃ f' : Nat → Int32, f_X4_fall_270 K93 (fun v2 v3 v4 v5 v6 v7 M => f_X4_fall_223 K93 k v2 v3 v4 v5 v6 v7 M) v2 v3 v4 (nI p) 1 (nI b) s (nI b) (mR M0 21 f) = f_X4_fall_277 K93 v2 v3 v4 (mR M0 21 f') ∧ (∀ a, a < n → (f' a = 0 ∨ f' a = 1) ∧ (f' a = 1 ↔ (M0.2.1 21 a ≠ 0 ∨ M0.2.1 19 a = nI p))) ∧ ∀ a, n ≤ a → f' a = M0.2.1 21 a := by
        intro s s1 s2
        rw [f_X4_fall_270, if_pos (ck b 80 (by omega)), nc b (by omega), show s &&& 1 = s by rcases s1 with rfl | rfl <;> decide, k_ls, n1, nI_add, mA_R, mR_R]
        refine ih (b + 1) _ (by omega) (by omega) (fun a ha => ?_) (fun a ha => ?_)
        · show (upd f b s a = 0 ∨ upd f b s a = 1) ∧ (upd f b s a = 1 ↔ _)
          rw [upd_get]
          by_cases e : a = b
          · subst e; rw [if_pos rfl]; exact ⟨s1, s2⟩
          · rw [if_neg e]; exact h1 a (by omega)
        · show upd f b s a = _
          rw [upd_get, if_neg (by omega)]; exact h2 a (by omega)
      by_cases z : M0.2.1 21 b = 0
      · rw [if_pos z]
        by_cases y : M0.2.1 19 b = nI p
        · rw [if_pos y, f_X4_fall_265]
          exact nx 1 (Or.inr rfl) ⟨fun _ => Or.inr y, fun _ => rfl⟩
        · rw [if_neg y]
          exact nx 0 (Or.inl rfl) ⟨fun q => absurd q (by decide), fun q => by rcases q with q | q; exact absurd z q; exact absurd q y⟩
      · rw [if_neg z, f_X4_fall_265]
        exact nx 1 (Or.inr rfl) ⟨fun _ => Or.inl z, fun _ => rfl⟩
/-- the second phase: the log from E on -/
def F2 (Z : Nat → Prop) (M0 M : MS) (n d E i : Nat) : Prop := TF Z M0 M ∧ M.1 = upd M0.1 29 (nI (d - cp (fun j => E ≤ j ∧ M0.2.1 33 (4 * j) = 2) i)) ∧ M.2.1 18 = M0.2.1 18 ∧ (∀ a, a < 80 → ((M0.2.1 11 a = 1 ∨ LX M0 E i a ∨ SX M0 E i a) → M.2.1 11 a = 0) ∧ (¬ (M0.2.1 11 a = 1 ∨ LX M0 E i a ∨ SX M0 E i a) → M.2.1 11 a = M0.2.1 11 a)) ∧ (∀ a, a < 80 → ((LX M0 E i a ∨ SX M0 E i a) → M.2.1 17 a = -1) ∧ (¬ (LX M0 E i a ∨ SX M0 E i a) → M.2.1 17 a = M0.2.1 17 a)) ∧ (∀ a, a < n → (M.2.1 22 a = 0 ∨ M.2.1 22 a = 1) ∧ (M.2.1 22 a = 1 ↔ (M0.2.1 11 a = 1 ∨ LX M0 E i a))) ∧ (∀ a, a < n → (M.2.1 21 a = 0 ∨ M.2.1 21 a = 1) ∧ (M.2.1 21 a = 1 ↔ (M0.2.1 21 a = 1 ∨ VX M0 E i a))) ∧ ∀ a, n ≤ a → M.2.1 21 a = M0.2.1 21 a
theorem LX_s {M : MS} {E i a : Nat} : LX M E (i + 1) a ↔ LX M E i a ∨ (E ≤ i ∧ M.2.1 33 (4 * i) = 2 ∧ M.2.1 33 (4 * i + 1) = nI a) := by
  constructor
  · rintro ⟨j, h1, h2, h3, h4⟩
    by_cases e : j = i
    · subst e; exact Or.inr ⟨h1, h3, h4⟩
    · exact Or.inl ⟨j, h1, by omega, h3, h4⟩
  · rintro (⟨j, h1, h2, h3, h4⟩ | ⟨h1, h3, h4⟩)
    · exact ⟨j, h1, by omega, h3, h4⟩
    · exact ⟨i, h1, by omega, h3, h4⟩
theorem SX_s {M : MS} {E i a : Nat} : SX M E (i + 1) a ↔ SX M E i a ∨ (E ≤ i ∧ M.2.1 33 (4 * i) = 3 ∧ M.2.1 33 (4 * i + 1) = nI a) := by
  constructor
  · rintro ⟨j, h1, h2, h3, h4⟩
    by_cases e : j = i
    · subst e; exact Or.inr ⟨h1, h3, h4⟩
    · exact Or.inl ⟨j, h1, by omega, h3, h4⟩
  · rintro (⟨j, h1, h2, h3, h4⟩ | ⟨h1, h3, h4⟩)
    · exact ⟨j, h1, by omega, h3, h4⟩
    · exact ⟨i, h1, by omega, h3, h4⟩
