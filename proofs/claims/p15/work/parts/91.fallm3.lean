theorem TF_tr {Z : Nat → Prop} {M0 M1 M2 : MS} (h1 : TF Z M0 M1) (h2 : TF Z M1 M2) : TF Z M0 M2 := ⟨fun k hk => (h2.1 k hk).trans (h1.1 k hk), h2.2.1.trans h1.2.1, fun a ha => ⟨fun c hc => ((h2.2.2 a ha).1 c hc).trans ((h1.2.2 a ha).1 c hc), fun c hc => ((h2.2.2 a ha).2.1 c hc).trans ((h1.2.2 a ha).2.1 c hc), (h2.2.2 a ha).2.2.trans (h1.2.2 a ha).2.2⟩⟩
/-- the third phase: what is void is stopped, the others are undone once more -/
def F3 (Z : Nat → Prop) (M2 M : MS) (b : Nat) : Prop := TF Z M2 M ∧ M.1 = M2.1 ∧ (∀ k, k = 21 ∨ k = 22 → M.2.1 k = M2.2.1 k) ∧ (∀ a, a < b → (M2.2.1 22 a = 1 ∧ M2.2.1 21 a = 0 → M.2.1 18 a = M2.2.1 18 a + 1) ∧ (¬ (M2.2.1 22 a = 1 ∧ M2.2.1 21 a = 0) → M.2.1 18 a = M2.2.1 18 a) ∧ (M2.2.1 21 a = 1 → M.2.1 11 a = 4 ∧ M.2.1 17 a = -1) ∧ (M2.2.1 21 a ≠ 1 → M.2.1 11 a = M2.2.1 11 a ∧ M.2.1 17 a = M2.2.1 17 a)) ∧ ∀ a, b ≤ a → M.2.1 11 a = M2.2.1 11 a ∧ M.2.1 17 a = M2.2.1 17 a ∧ M.2.1 18 a = M2.2.1 18 a
theorem m_fall_291 {Z : Nat → Prop} {M2 : MS} {n : Nat} {v3 : Int32} (hn80 : n ≤ 80) (hn : M2.1 7 = nI n) (h22 : ∀ a, a < n → M2.2.1 22 a = 0 ∨ M2.2.1 22 a = 1) (h21 : ∀ a, a < n → M2.2.1 21 a = 0 ∨ M2.2.1 21 a = 1) (hZ : ∀ a, a < n → M2.2.1 21 a = 1 → Z a) (k b : Nat) (M : MS) (hk : n < k + b) (hb : b ≤ n) (h : F3 Z M2 M b) : ∃ M', f_X4_fall_291 k v3 (nI b) M = f_X4_fall_379 3000000 v3 0 M' ∧ F3 Z M2 M' n := by
  induction k generalizing b M with
  | zero => omega
  | succ k ih =>
    obtain ⟨g1, g2, g3, g4, g5⟩ := id h
    rw [f_X4_fall_291, g2, hn]
    by_cases h0 : n ≤ b
    · rw [if_pos (np_ h0 (by omega) (by omega))]
      have : b = n := by omega
      subst this
      exact ⟨M, rfl, h⟩
    · rw [if_neg (nn h0 (by omega) (by omega)), if_pos (ck b 80 (by omega)), nc b (by omega), g3 22 (by omega), g3 21 (by omega), (g5 b (Nat.le_refl _)).2.2]
      have z21 := h21 b (by omega)
      have z22 := h22 b (by omega)
      have nx : ∀ s : Int32, (M2.2.1 22 b = 1 ∧ M2.2.1 21 b = 0 → s = 1) → (¬ (M2.2.1 22 b = 1 ∧ M2.2.1 21 b = 0) → s = 0) → ∃ M', f_X4_fall_333 (fun v3 v4 M => f_X4_fall_291 k v3 v4 M) v3 (nI b) s (M2.2.1 18 b) (nI b) M = f_X4_fall_379 3000000 v3 0 M' ∧ F3 Z M2 M' n := by
        intro s s1 s2
        unfold f_X4_fall_333
        rw [if_pos (ck b 80 (by omega)), nc b (by omega), k_ls, if_pos (ck b 80 (by omega)), show (mA M 18 b (M2.2.1 18 b + s)).2.1 21 b = M2.2.1 21 b from by rw [mA_ne (by omega), g3 21 (by omega)]]
        have v18 : (M2.2.1 22 b = 1 ∧ M2.2.1 21 b = 0 → M2.2.1 18 b + s = M2.2.1 18 b + 1) ∧ (¬ (M2.2.1 22 b = 1 ∧ M2.2.1 21 b = 0) → M2.2.1 18 b + s = M2.2.1 18 b) := ⟨fun q => by rw [s1 q], fun q => by rw [s2 q, Int32.add_zero]⟩
        rcases z21 with z | z
        · rw [if_pos z, f_X4_fall_370, n1, nI_add]
          refine ih (b + 1) _ (by omega) (by omega) ⟨TF_A g1 (by omega), g2, fun j hj => by rw [mA_ne (by omega)]; exact g3 j hj, fun a ha => ?_, fun a ha => ?_⟩
          · rw [mA_at, mA_ne (by omega), mA_ne (by omega)]
            by_cases e : a = b
            · subst e; rw [if_pos rfl]
              exact ⟨v18.1, v18.2, fun q => by rw [z] at q; exact absurd q (by decide), fun _ => ⟨(g5 a (Nat.le_refl _)).1, (g5 a (Nat.le_refl _)).2.1⟩⟩
            · rw [if_neg e]; exact g4 a (by omega)
          · rw [mA_at, mA_ne (by omega), mA_ne (by omega), if_neg (by omega)]; exact g5 a (by omega)
        · rw [if_neg (by rw [z]; decide), m_clears (by omega), k_bs, k_ls, k_ls, f_X4_fall_370, n1, nI_add]
          refine ih (b + 1) _ (by omega) (by omega) ⟨TF_A (TF_A (TF_clr (TF_A g1 (by omega)) (hZ b (by omega) z)) (by omega)) (by omega), g2, fun j hj => by rw [mA_ne (by omega), mA_ne (by omega), mClr_r (by omega), mA_ne (by omega)]; exact g3 j hj, fun a ha => ?_, fun a ha => ?_⟩
          · rw [mA_ne (j := 18) (by omega), mA_ne (j := 18) (by omega), mClr_r (k := 18) (by omega), mA_at, mA_ne (j := 11) (k := 17) (by omega), mA_at, mClr_r (k := 11) (by omega), mA_ne (j := 11) (k := 18) (by omega), mA_at, mA_ne (j := 17) (k := 11) (by omega), mClr_r (k := 17) (by omega), mA_ne (j := 17) (k := 18) (by omega)]
            by_cases e : a = b
            · subst e; rw [if_pos rfl, if_pos rfl, if_pos rfl]
              exact ⟨v18.1, v18.2, fun _ => ⟨rfl, rfl⟩, fun q => absurd z q⟩
            · rw [if_neg e, if_neg e, if_neg e]; exact g4 a (by omega)
          · rw [mA_ne (j := 18) (by omega), mA_ne (j := 18) (by omega), mClr_r (k := 18) (by omega), mA_at, mA_ne (j := 11) (k := 17) (by omega), mA_at, mClr_r (k := 11) (by omega), mA_ne (j := 11) (k := 18) (by omega), mA_at, mA_ne (j := 17) (k := 11) (by omega), mClr_r (k := 17) (by omega), mA_ne (j := 17) (k := 18) (by omega), if_neg (by omega), if_neg (by omega), if_neg (by omega)]; exact g5 a (by omega)
      rcases z22 with y | y
      · rw [if_pos y, f_X4_fall_332]
        exact nx 0 (fun q => by rw [y] at q; exact absurd q.1 (by decide)) (fun _ => rfl)
      · rw [if_neg (by rw [y]; decide)]
        rcases z21 with z | z
        · rw [if_pos z]
          exact nx 1 (fun _ => rfl) (fun q => absurd ⟨y, z⟩ q)
        · rw [if_neg (by rw [z]; decide), f_X4_fall_332]
          exact nx 0 (fun q => by rw [z] at q; exact absurd q.2 (by decide)) (fun _ => rfl)
theorem m_fall_379 {v3 : Int32} (k j : Nat) (M : MS) (hk : 24 < k + j) (hj : j ≤ 24) : f_X4_fall_379 k v3 (nI j) M = f_X4_fall_403 3000000 v3 0 (mR M 1 (rwm (M.2.1 1) j (24 - j) (fun _ => 0))) := by
  induction k generalizing j M with
  | zero => omega
  | succ k ih =>
    rw [f_X4_fall_379]
    by_cases h0 : 24 ≤ j
    · rw [if_pos (show 24 ≤ nI j from np_ (a := 24) h0 (by omega) (by omega)), show 24 - j = 0 by omega, rwm_0, mR_id]
    · rw [if_neg (show ¬ 24 ≤ nI j from nn (a := 24) h0 (by omega) (by omega)), if_pos (ck j 24 (by omega)), nc j (by omega), k_ls, n1, nI_add, ih (j + 1) _ (by omega) (by omega), mA_R]
      obtain ⟨d, hd⟩ : ∃ d, 24 - j = d + 1 := ⟨23 - j, by omega⟩
      rw [hd, show 24 - (j + 1) = d by omega, show (mR M 1 (upd (M.2.1 1) j 0)).2.1 1 = upd (M.2.1 1) j 0 from rfl, rwm_s (v := 0) (g := fun _ => 0) rfl, mR_R]
theorem m_fall_403 {v3 : Int32} (k j : Nat) (M : MS) (hk : 8 < k + j) (hj : j ≤ 8) : f_X4_fall_403 k v3 (nI j) M = f_X4_fall_427 3000000 v3 0 (mR M 2 (rwm (M.2.1 2) j (8 - j) (fun _ => 0))) := by
  induction k generalizing j M with
  | zero => omega
  | succ k ih =>
    rw [f_X4_fall_403]
    by_cases h0 : 8 ≤ j
    · rw [if_pos (show 8 ≤ nI j from np_ (a := 8) h0 (by omega) (by omega)), show 8 - j = 0 by omega, rwm_0, mR_id]
    · rw [if_neg (show ¬ 8 ≤ nI j from nn (a := 8) h0 (by omega) (by omega)), if_pos (ck j 8 (by omega)), nc j (by omega), k_ls, n1, nI_add, ih (j + 1) _ (by omega) (by omega), mA_R]
      obtain ⟨d, hd⟩ : ∃ d, 8 - j = d + 1 := ⟨7 - j, by omega⟩
      rw [hd, show 8 - (j + 1) = d by omega, show (mR M 2 (upd (M.2.1 2) j 0)).2.1 2 = upd (M.2.1 2) j 0 from rfl, rwm_s (v := 0) (g := fun _ => 0) rfl, mR_R]
theorem m_fall_427 {v3 : Int32} {M : MS} {n d : Nat} (hn80 : n ≤ 80) (hn : M.1 7 = nI n) (hd : M.1 29 = nI d) (hd80 : d ≤ 80) (hr : ∀ i, i < d → ∃ b, b < 80 ∧ M.2.1 30 i = nI b) (k i : Nat) (F G : Nat → Int32) (hk : d < k + i) (hi : i ≤ d) (hF : ∀ c, c < 24 → F c = vCell M c i) (hG : ∀ c, c < 8 → G c = vCnt M c i) : ∃ F' G' : Nat → Int32, f_X4_fall_427 k v3 (nI i) (mR (mR M 1 F) 2 G) = some (v3, mI (mKeep n (mR (mR M 1 F') 2 G')) 35 (M.1 35 + 1)) ∧ (∀ c, c < 24 → F' c = vCell M c d) ∧ ∀ c, c < 8 → G' c = vCnt M c d := by
  induction k generalizing i F G with
  | zero => omega
  | succ k ih =>
    rw [f_X4_fall_427, show (mR (mR M 1 F) 2 G).1 29 = nI d from hd]
    by_cases h0 : d ≤ i
    · rw [if_pos (np_ h0 (by omega) (by omega)), m_keeps hn80 (mR (mR M 1 F) 2 G) hn, k_bs, k_ls]
      have : i = d := by omega
      subst this
      exact ⟨F, G, rfl, hF, hG⟩
    · obtain ⟨b, b1, b2⟩ := hr i (by omega)
      rw [if_neg (nn h0 (by omega) (by omega)), if_pos (ck i 80 (by omega)), nc i (by omega), show (mR (mR M 1 F) 2 G).2.1 30 i = nI b from b2, m_gets b1, k_bs, n1, nI_add]
      have e : mGet b (mR (mR M 1 F) 2 G) = mR (mR M 1 (rwm F 0 24 (fun c => if M.2.1 23 (24 * b + c) = 3 then M.2.1 24 (24 * b + c) else F c))) 2 (rwm G 0 8 (fun c => G c + M.2.1 25 (8 * b + c))) := by
        unfold mGet
        rw [mR_2 M _ _ _ _ (by omega)]
        rfl
      rw [e]
      refine ih (i + 1) _ _ (by omega) (by omega) (fun c hc => ?_) (fun c hc => ?_)
      · simp only [rwm, vCell]
        rw [if_pos (show 0 ≤ c ∧ c < 0 + 24 by omega), b2, nc b (by omega), hF c hc]
      · simp only [rwm, vCnt]
        rw [if_pos (show 0 ≤ c ∧ c < 0 + 8 by omega), b2, nc b (by omega), hG c hc]
