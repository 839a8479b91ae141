/-- a row changed by g at n places from s on -/
def rwm (f : Nat → Int32) (s n : Nat) (g : Nat → Int32) : Nat → Int32 := fun i => if s ≤ i ∧ i < s + n then g i else f i
theorem rwm_0 (f : Nat → Int32) (s : Nat) (g : Nat → Int32) : rwm f s 0 g = f := by
  funext i; simp only [rwm]; rw [if_neg (by omega)]
theorem rwm_s {f : Nat → Int32} {s n : Nat} {g : Nat → Int32} {v : Int32} (hv : v = g s) : rwm (upd f s v) (s + 1) n g = rwm f s (n + 1) g := by
  subst hv
  funext i; simp only [rwm, upd_get]
  by_cases h : i = s
  · subst h; rw [if_neg (by omega), if_pos rfl, if_pos (by omega)]
  · by_cases h2 : s + 1 ≤ i ∧ i < s + 1 + n
    · rw [if_pos h2, if_pos (by omega)]
    · rw [if_neg h2, if_neg h, if_neg (by omega)]
theorem upd_id (f : Nat → Int32) (k : Nat) : upd f k (f k) = f := by
  funext i; rw [upd_get]; split
  · rename_i q; rw [q]
  · rfl
theorem nn {a b : Nat} (h : ¬ a ≤ b) (ha : a < 2147483648) (hb : b < 2147483648) : ¬ nI a ≤ nI b := fun q => h ((nIle ha hb).mp q)
theorem np_ {a b : Nat} (h : a ≤ b) (ha : a < 2147483648) (hb : b < 2147483648) : nI a ≤ nI b := (nIle ha hb).mpr h
/-- clears -/
def mClr4 (a : Nat) (M : MS) : MS := mR (mR (mR (mR M 28 (upd (M.2.1 28) a 0)) 15 (upd (M.2.1 15) a 0)) 14 (upd (M.2.1 14) a 0)) 16 (upd (M.2.1 16) a 0)
def mClr (a : Nat) (M : MS) : MS := mClr4 a (mR (mR (mR M 23 (rwm (M.2.1 23) (24 * a) 24 (fun _ => 0))) 25 (rwm (M.2.1 25) (8 * a) 8 (fun _ => 0))) 26 (rwm (M.2.1 26) (8 * a) 8 (fun _ => 0)))
theorem mR_cm (M : MS) {j k : Nat} (f g : Nat → Int32) (h : j ≠ k) : mR (mR M j f) k g = mR (mR M k g) j f := by
  simp only [mR]
  congr 2
  funext i
  simp only [va_up]
  by_cases h1 : i = k
  · rw [if_pos h1, if_neg (fun q => h (q.symm.trans h1)), if_pos h1]
  · rw [if_neg h1]
    by_cases h2 : i = j
    · rw [if_pos h2, if_pos h2]
    · rw [if_neg h2, if_neg h2, if_neg h1]
theorem mR_2 (M : MS) {j k : Nat} (f f2 g g2 : Nat → Int32) (h : j ≠ k) : mR (mR (mR (mR M j f) k g) j f2) k g2 = mR (mR M j f2) k g2 := by
  rw [mR_cm (mR M j f) g f2 (fun q => h q.symm), mR_R, mR_R]
theorem m_clears_28 {a : Nat} (ha : a < 80) (k j : Nat) (M : MS) (hk : 8 < k + j) (hj : j ≤ 8) : f_X4_clears_28 k (nI a) (nI j) M = some (0, mClr4 a (mR (mR M 25 (rwm (M.2.1 25) (8 * a + j) (8 - j) (fun _ => 0))) 26 (rwm (M.2.1 26) (8 * a + j) (8 - j) (fun _ => 0)))) := by
  induction k generalizing j M with
  | zero => omega
  | succ k ih =>
    rw [f_X4_clears_28, n8]
    by_cases h : 8 ≤ j
    · rw [if_pos (np_ h (by omega) (by omega)), if_pos (ck a 80 (by omega)), nc a (by omega), show 8 - j = 0 by omega, rwm_0, rwm_0, mR_id, mR_id]
      rfl
    · rw [if_neg (nn h (by omega) (by omega)), ← n8, ix8, if_pos (ck (8 * a + j) 640 (by omega)), nc (8 * a + j) (by omega), k_ls, k_ls, n1, nI_add, ih (j + 1) _ (by omega) (by omega), mA_R, mA_R]
      congr 3
      obtain ⟨d, hd⟩ : ∃ d, 8 - j = d + 1 := ⟨7 - j, by omega⟩
      rw [hd, show 8 - (j + 1) = d by omega, ← Nat.add_assoc]
      rw [show (mR (mR M 25 (upd (M.2.1 25) (8 * a + j) 0)) 26 (upd ((mR M 25 (upd (M.2.1 25) (8 * a + j) 0)).2.1 26) (8 * a + j) 0)).2.1 25 = upd (M.2.1 25) (8 * a + j) 0 from rfl,
        show (mR (mR M 25 (upd (M.2.1 25) (8 * a + j) 0)) 26 (upd ((mR M 25 (upd (M.2.1 25) (8 * a + j) 0)).2.1 26) (8 * a + j) 0)).2.1 26 = upd (M.2.1 26) (8 * a + j) 0 from rfl, rwm_s (v := 0) (g := fun _ => 0) rfl, rwm_s (v := 0) (g := fun _ => 0) rfl]
      exact mR_2 M _ _ _ _ (by decide)
theorem m_clears_2 {a : Nat} (ha : a < 80) (k j : Nat) (M : MS) (hk : 24 < k + j) (hj : j ≤ 24) : f_X4_clears_2 k (nI a) (nI j) M = f_X4_clears_28 200 (nI a) 0 (mR M 23 (rwm (M.2.1 23) (24 * a + j) (24 - j) (fun _ => 0))) := by
  induction k generalizing j M with
  | zero => omega
  | succ k ih =>
    rw [f_X4_clears_2, n24]
    by_cases h : 24 ≤ j
    · rw [if_pos (np_ h (by omega) (by omega)), show 24 - j = 0 by omega, rwm_0, mR_id]
    · rw [if_neg (nn h (by omega) (by omega)), ← n24, ix24, if_pos (ck (24 * a + j) 1920 (by omega)), nc (24 * a + j) (by omega), k_ls, n1, nI_add, ih (j + 1) _ (by omega) (by omega), mA_R]
      obtain ⟨d, hd⟩ : ∃ d, 24 - j = d + 1 := ⟨23 - j, by omega⟩
      rw [hd, show 24 - (j + 1) = d by omega, ← Nat.add_assoc, show (mR M 23 (upd (M.2.1 23) (24 * a + j) 0)).2.1 23 = upd (M.2.1 23) (24 * a + j) 0 from rfl, rwm_s (v := 0) (g := fun _ => 0) rfl, mR_R]
theorem m_clears {a : Nat} (ha : a < 80) (M : MS) : f_X4_clears (nI a) M = some (0, mClr a M) := by
  unfold f_X4_clears
  rw [n0, m_clears_2 ha 200 0 M (by omega) (by omega), n0, m_clears_28 ha 200 0 _ (by omega) (by omega)]
  rfl
/-- lets -/
def mLet (a : Nat) (M : MS) : MS := mR (mR M 23 (rwm (M.2.1 23) (24 * a) 24 (fun i => if M.2.1 23 i = 2 then 3 else 0))) 16 (upd (M.2.1 16) a 0)
theorem m_lets_2 {a : Nat} (ha : a < 80) (k j : Nat) (M : MS) (hk : 24 < k + j) (hj : j ≤ 24) : f_X4_lets_2 k (nI a) (nI j) M = some (0, mR (mR M 23 (rwm (M.2.1 23) (24 * a + j) (24 - j) (fun i => if M.2.1 23 i = 2 then 3 else 0))) 16 (upd (M.2.1 16) a 0)) := by
  induction k generalizing j M with
  | zero => omega
  | succ k ih =>
    rw [f_X4_lets_2, n24]
    by_cases h : 24 ≤ j
    · rw [if_pos (np_ h (by omega) (by omega)), if_pos (ck a 80 (by omega)), nc a (by omega), show 24 - j = 0 by omega, rwm_0, mR_id]
      rfl
    · rw [if_neg (nn h (by omega) (by omega)), ← n24, ix24, if_pos (ck (24 * a + j) 1920 (by omega)), nc (24 * a + j) (by omega)]
      have key : ∀ v : Int32, v = (if M.2.1 23 (24 * a + j) = 2 then 3 else 0) → f_X4_lets_38 (fun v1 v2 M => f_X4_lets_2 k v1 v2 M) (nI a) (nI j) v (nI (24 * a + j)) M = some (0, mR (mR M 23 (rwm (M.2.1 23) (24 * a + j) (24 - j) (fun i => if M.2.1 23 i = 2 then 3 else 0))) 16 (upd (M.2.1 16) a 0)) := by
        intro v hv
        rw [f_X4_lets_38, if_pos (ck (24 * a + j) 1920 (by omega)), nc (24 * a + j) (by omega), k_ls, n1, nI_add]
        show f_X4_lets_2 k (nI a) (nI (j + 1)) _ = _
        rw [ih (j + 1) _ (by omega) (by omega), mA_R]
        obtain ⟨d, hd⟩ : ∃ d, 24 - j = d + 1 := ⟨23 - j, by omega⟩
        rw [hd, show 24 - (j + 1) = d by omega, ← Nat.add_assoc, show (mR M 23 (upd (M.2.1 23) (24 * a + j) v)).2.1 23 = upd (M.2.1 23) (24 * a + j) v from rfl, mR_R, show (mR M 23 (upd (M.2.1 23) (24 * a + j) v)).2.1 16 = M.2.1 16 from rfl]
        congr 4
        rw [← rwm_s (v := v) hv]
        funext i; simp only [rwm]
        by_cases h2 : 24 * a + j + 1 ≤ i ∧ i < 24 * a + j + 1 + d
        · rw [if_pos h2, if_pos h2, pk_un (by omega)]
        · rw [if_neg h2, if_neg h2]
      by_cases h2 : M.2.1 23 (24 * a + j) = 2
      · rw [if_pos h2]; exact key 3 (by rw [if_pos h2])
      · rw [if_neg h2]; exact key 0 (by rw [if_neg h2])
theorem m_lets {a : Nat} (ha : a < 80) (M : MS) : f_X4_lets (nI a) M = some (0, mLet a M) := by
  unfold f_X4_lets
  rw [n0, m_lets_2 ha 200 0 M (by omega) (by omega)]
  rfl
/-- gets -/
def mGet (a : Nat) (M : MS) : MS := mR (mR M 1 (rwm (M.2.1 1) 0 24 (fun c => if M.2.1 23 (24 * a + c) = 3 then M.2.1 24 (24 * a + c) else M.2.1 1 c))) 2 (rwm (M.2.1 2) 0 8 (fun c => M.2.1 2 c + M.2.1 25 (8 * a + c)))
theorem m_gets_48 {a : Nat} (ha : a < 80) (k j : Nat) (M : MS) (hk : 8 < k + j) (hj : j ≤ 8) : f_X4_gets_48 k (nI a) (nI j) M = some (0, mR M 2 (rwm (M.2.1 2) j (8 - j) (fun c => M.2.1 2 c + M.2.1 25 (8 * a + c)))) := by
  induction k generalizing j M with
  | zero => omega
  | succ k ih =>
    rw [f_X4_gets_48, n8]
    by_cases h : 8 ≤ j
    · rw [if_pos (np_ h (by omega) (by omega)), show 8 - j = 0 by omega, rwm_0, mR_id]
    · rw [if_neg (nn h (by omega) (by omega)), ← n8, if_pos (ck j 8 (by omega)), ix8, if_pos (ck (8 * a + j) 640 (by omega)), nc (8 * a + j) (by omega), nc j (by omega), k_ls, n1, nI_add, ih (j + 1) _ (by omega) (by omega), mA_R]
      obtain ⟨d, hd⟩ : ∃ d, 8 - j = d + 1 := ⟨7 - j, by omega⟩
      rw [hd, show 8 - (j + 1) = d by omega, show (mR M 2 (upd (M.2.1 2) j (M.2.1 2 j + M.2.1 25 (8 * a + j)))).2.1 2 = upd (M.2.1 2) j (M.2.1 2 j + M.2.1 25 (8 * a + j)) from rfl, mR_R]
      congr 3
      rw [← rwm_s (v := M.2.1 2 j + M.2.1 25 (8 * a + j)) rfl]
      funext i; simp only [rwm]
      by_cases h2 : j + 1 ≤ i ∧ i < j + 1 + d
      · rw [if_pos h2, if_pos h2, pk_un (by omega)]; rfl
      · rw [if_neg h2, if_neg h2]
theorem m_gets_2 {a : Nat} (ha : a < 80) (k j : Nat) (M : MS) (hk : 24 < k + j) (hj : j ≤ 24) : f_X4_gets_2 k (nI a) (nI j) M = f_X4_gets_48 200 (nI a) 0 (mR M 1 (rwm (M.2.1 1) j (24 - j) (fun c => if M.2.1 23 (24 * a + c) = 3 then M.2.1 24 (24 * a + c) else M.2.1 1 c))) := by
  induction k generalizing j M with
  | zero => omega
  | succ k ih =>
    rw [f_X4_gets_2, n24]
    by_cases h : 24 ≤ j
    · rw [if_pos (np_ h (by omega) (by omega)), show 24 - j = 0 by omega, rwm_0, mR_id]
    · rw [if_neg (nn h (by omega) (by omega)), ← n24, ix24, if_pos (ck (24 * a + j) 1920 (by omega)), nc (24 * a + j) (by omega)]
      obtain ⟨d, hd⟩ : ∃ d, 24 - j = d + 1 := ⟨23 - j, by omega⟩
      have fin : ∀ v : Int32, v = (if M.2.1 23 (24 * a + j) = 3 then M.2.1 24 (24 * a + j) else M.2.1 1 j) → f_X4_gets_2 k (nI a) (nI (j + 1)) (mR M 1 (upd (M.2.1 1) j v)) = f_X4_gets_48 200 (nI a) 0 (mR M 1 (rwm (M.2.1 1) j (24 - j) (fun c => if M.2.1 23 (24 * a + c) = 3 then M.2.1 24 (24 * a + c) else M.2.1 1 c))) := by
        intro v hv
        rw [ih (j + 1) _ (by omega) (by omega), hd, show 24 - (j + 1) = d by omega, show (mR M 1 (upd (M.2.1 1) j v)).2.1 1 = upd (M.2.1 1) j v from rfl, mR_R]
        congr 2
        rw [← rwm_s (v := v) hv]
        funext i; simp only [rwm]
        by_cases h2 : j + 1 ≤ i ∧ i < j + 1 + d
        · rw [if_pos h2, if_pos h2, pk_un (by omega)]; rfl
        · rw [if_neg h2, if_neg h2]
      by_cases h2 : M.2.1 23 (24 * a + j) = 3
      · rw [if_pos h2, if_pos (ck j 24 (by omega)), nc j (by omega), k_ls, f_X4_gets_40, n1, nI_add, mA_R]
        exact fin _ (by rw [if_pos h2])
      · rw [if_neg h2, f_X4_gets_40, n1, nI_add]
        have e : mR M 1 (upd (M.2.1 1) j (M.2.1 1 j)) = M := by
          rw [upd_id, mR_id]
        have := fin (M.2.1 1 j) (by rw [if_neg h2])
        rw [e] at this
        exact this
theorem m_gets {a : Nat} (ha : a < 80) (M : MS) : f_X4_gets (nI a) M = some (0, mGet a M) := by
  unfold f_X4_gets
  rw [n0, m_gets_2 ha 200 0 M (by omega) (by omega), n0, m_gets_48 ha 200 0 _ (by omega) (by omega)]
  rfl
/-- keeps -/
def mKeep (n : Nat) (M : MS) : MS := mR (mI M 32 (M.1 31)) 11 (rwm (M.2.1 11) 0 n (fun i => if M.2.1 11 i = 2 then 3 else M.2.1 11 i))
theorem m_keeps_10 {n : Nat} (hn80 : n ≤ 80) (k j : Nat) (M : MS) (hn : M.1 7 = nI n) (hk : n < k + j) (hj : j ≤ n) : f_X4_keeps_10 k (nI j) M = some (0, mR M 11 (rwm (M.2.1 11) j (n - j) (fun i => if M.2.1 11 i = 2 then 3 else M.2.1 11 i))) := by
  induction k generalizing j M with
  | zero => omega
  | succ k ih =>
    rw [f_X4_keeps_10, hn]
    by_cases h : n ≤ j
    · rw [if_pos (np_ h (by omega) (by omega)), show n - j = 0 by omega, rwm_0, mR_id]
    · rw [if_neg (nn h (by omega) (by omega)), if_pos (ck j 80 (by omega)), nc j (by omega)]
      obtain ⟨d, hd⟩ : ∃ d, n - j = d + 1 := ⟨n - 1 - j, by omega⟩
      have fin : ∀ v : Int32, v = (if M.2.1 11 j = 2 then 3 else M.2.1 11 j) → f_X4_keeps_10 k (nI (j + 1)) (mR M 11 (upd (M.2.1 11) j v)) = some (0, mR M 11 (rwm (M.2.1 11) j (n - j) (fun i => if M.2.1 11 i = 2 then 3 else M.2.1 11 i))) := by
        intro v hv
        rw [ih (j + 1) (mR M 11 (upd (M.2.1 11) j v)) hn (by omega) (by omega), hd, show n - (j + 1) = d by omega, show (mR M 11 (upd (M.2.1 11) j v)).2.1 11 = upd (M.2.1 11) j v from rfl, mR_R]
        congr 3
        rw [← rwm_s (v := v) hv]
        funext i; simp only [rwm]
        by_cases h2 : j + 1 ≤ i ∧ i < j + 1 + d
        · rw [if_pos h2, if_pos h2, pk_un (by omega)]
        · rw [if_neg h2, if_neg h2]
      by_cases h2 : M.2.1 11 j = 2
      · rw [if_pos h2, k_ls, f_X4_keeps_35, n1, nI_add, mA_R]
        exact fin _ (by rw [if_pos h2])
      · rw [if_neg h2, f_X4_keeps_35, n1, nI_add]
        have e : mR M 11 (upd (M.2.1 11) j (M.2.1 11 j)) = M := by
          rw [upd_id, mR_id]
        have := fin (M.2.1 11 j) (by rw [if_neg h2])
        rw [e] at this
        exact this
theorem m_keeps {n : Nat} (hn80 : n ≤ 80) (M : MS) (hn : M.1 7 = nI n) : f_X4_keeps M = some (0, mKeep n M) := by
  unfold f_X4_keeps
  rw [k_ls, n0, m_keeps_10 hn80 200 0 (mI M 32 (M.1 31)) hn (by omega) (by omega)]
  rfl
/-- newAct -/
def mNew (n : Nat) (x y z w : Int32) (M : MS) : MS := mI (mR (mR (mR (mR (mR (mR M 8 (upd (M.2.1 8) n x)) 9 (upd (M.2.1 9) n y)) 10 (upd (M.2.1 10) n z)) 19 (upd (M.2.1 19) n w)) 17 (upd (M.2.1 17) n (-1))) 20 (upd (M.2.1 20) n (-1))) 7 (nI (n + 1))
theorem m_newAct_80 {M : MS} {x y z w : Int32} (hn : M.1 7 = nI 80) : f_X4_newAct x y z w M = some (-1, M) := by
  unfold f_X4_newAct
  rw [hn, if_pos (show nI 80 = 80 from rfl)]
theorem m_newAct {M : MS} {n : Nat} {x y z w : Int32} (hn : M.1 7 = nI n) (h80 : n < 80) : f_X4_newAct x y z w M = some (nI n, mNew n x y z w M) := by
  unfold f_X4_newAct
  simp only [k_ls, mA_R, mR_1, hn, mI_get, if_true]
  rw [if_neg (fun q => by have := (nIeq (a := n) (b := 80) (by omega) (by omega)).mp q; omega), nc n (by omega), n1, nI_add, show nI (n + 1) - nI 1 = nI n from nI_pred n]
  simp only [if_pos (ck n 80 (by omega))]
  rfl
