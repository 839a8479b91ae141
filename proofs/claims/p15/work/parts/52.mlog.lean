/-- how long the log's row can be -/
def lnOK (l : Nat) : Prop := l = 4000 ∨ l = 8000 ∨ l = 16000 ∨ l = 32000 ∨ l = 64000 ∨ l = 128000 ∨ l = 256000 ∨ l = 512000 ∨ l = 1024000 ∨ l = 2048000
theorem ix4 (e d : Nat) : (4 : Int32) * nI e + nI d = nI (4 * e + d) := by rw [n4, pk_mul, nI_add]
theorem ix40 (e : Nat) : (4 : Int32) * nI e = nI (4 * e) := by rw [n4, pk_mul]
/-- the log's row with an entry more -/
def lgR (f : Nat → Int32) (e : Nat) (x y z t : Int32) : Nat → Int32 := upd (upd (upd (upd f (4 * e) x) (4 * e + 1) y) (4 * e + 2) z) (4 * e + 3) t
theorem lgR_lt {f : Nat → Int32} {e j : Nat} {x y z t : Int32} (h : j < 4 * e) : lgR f e x y z t j = f j := by
  simp only [lgR, upd_get]; rw [if_neg (by omega), if_neg (by omega), if_neg (by omega), if_neg (by omega)]
theorem lgR_0 {f : Nat → Int32} {e : Nat} {x y z t : Int32} : lgR f e x y z t (4 * e) = x := by
  simp only [lgR, upd_get]; rw [if_neg (by omega), if_neg (by omega), if_neg (by omega), if_pos trivial]
theorem lgR_1 {f : Nat → Int32} {e : Nat} {x y z t : Int32} : lgR f e x y z t (4 * e + 1) = y := by
  simp only [lgR, upd_get]; rw [if_neg (by omega), if_neg (by omega), if_pos trivial]
theorem lgR_2 {f : Nat → Int32} {e : Nat} {x y z t : Int32} : lgR f e x y z t (4 * e + 2) = z := by
  simp only [lgR, upd_get]; rw [if_neg (by omega), if_pos trivial]
theorem lgR_3 {f : Nat → Int32} {e : Nat} {x y z t : Int32} : lgR f e x y z t (4 * e + 3) = t := by
  simp only [lgR, upd_get]; rw [if_pos trivial]
theorem m_logs_64 {M : MS} {e : Nat} {x y z : Int32} (he : M.1 31 = nI e) (h4 : 4 * e + 4 ≤ M.2.2) (hl : M.2.2 ≤ 2048000) : f_X4_logs_64 x y z M = some (0, mI (mR M 33 (lgR (M.2.1 33) e x y z (M.1 0))) 31 (nI (e + 1))) := by
  unfold f_X4_logs_64
  simp only [k_ls, mA_R, mR_1, mR_22, he, n1, n2, n3, ix40, nI_add]
  rw [if_pos (ck (4 * e) M.2.2 (by omega)), if_pos (ck (4 * e + 1) M.2.2 (by omega)), if_pos (ck (4 * e + 2) M.2.2 (by omega)), if_pos (ck (4 * e + 3) M.2.2 (by omega)), nc (4 * e) (by omega), nc (4 * e + 1) (by omega), nc (4 * e + 2) (by omega), nc (4 * e + 3) (by omega)]
  simp only [mR_get, if_true, mR_R]
  rfl
theorem m_logs_30 {M : MS} {x y z : Int32} (hl : M.2.2 ≤ 1024000) (k i : Nat) (hk : M.2.2 < k + i) (hi : i ≤ M.2.2) : f_X4_logs_30 k x y z (nI i) (fun j => if j < i then M.2.1 33 j else 0) M = f_X4_logs_64 x y z (mG M (fun j => if j < M.2.2 then M.2.1 33 j else 0)) := by
  induction k generalizing i with
  | zero => omega
  | succ k ih =>
    rw [f_X4_logs_30]
    by_cases h : M.2.2 ≤ i
    · rw [if_pos (np_ h (by omega) (by omega)), k_ls, show i = M.2.2 by omega]
    · rw [if_neg (nn h (by omega) (by omega)), if_pos (ck i M.2.2 (by omega)), if_pos (ck i (2 * M.2.2) (by omega)), nc i (by omega), n1, nI_add, ← ih (i + 1) (by omega) (by omega)]
      congr 1
      funext j
      rw [upd_get]
      by_cases h1 : j = i
      · rw [if_pos h1, if_pos (by omega), h1]
      · rw [if_neg h1]
        by_cases h2 : j < i
        · rw [if_pos h2, if_pos (by omega)]
        · rw [if_neg h2, if_neg (by omega)]
/-- an entry more in the log -/
theorem m_logs {M : MS} {e : Nat} {x y z : Int32} (he : M.1 31 = nI e) (h4 : 4 * e ≤ M.2.2) (hl : lnOK M.2.2) (hb : e < 512000) : ∃ M' : MS, f_X4_logs x y z M = some (0, M') ∧ M'.1 = upd M.1 31 (nI (e + 1)) ∧ (∀ k, k ≠ 33 → M'.2.1 k = M.2.1 k) ∧ (∀ j, j < 4 * e → M'.2.1 33 j = M.2.1 33 j) ∧ M'.2.1 33 (4 * e) = x ∧ M'.2.1 33 (4 * e + 1) = y ∧ M'.2.1 33 (4 * e + 2) = z ∧ M'.2.1 33 (4 * e + 3) = M.1 0 ∧ 4 * (e + 1) ≤ M'.2.2 ∧ lnOK M'.2.2 := by
  have hl2 := hl
  unfold lnOK at hl2
  unfold f_X4_logs
  rw [he, n1, nI_add, ix40]
  by_cases h : 4 * (e + 1) ≤ M.2.2
  · rw [if_pos (np_ h (by omega) (by omega)), m_logs_64 he (by omega) (by omega)]
    exact ⟨_, rfl, rfl, fun k hk => by rw [mI_21, mR_get, if_neg hk], fun j hj => lgR_lt hj, lgR_0, lgR_1, lgR_2, lgR_3, h, hl⟩
  · rw [if_neg (nn h (by omega) (by omega)), if_pos (by omega)]
    have hf : (fun _ => 0 : Nat → Int32) = (fun j => if j < 0 then M.2.1 33 j else 0) := by funext j; rw [if_neg (by omega)]
    have q := m_logs_30 (M := M) (x := x) (y := y) (z := z) (by omega) 3000000 0 (by omega) (by omega)
    rw [← hf] at q
    rw [show f_X4_logs_30 3000000 x y z (0 : Int32) (fun _ => 0) M = _ from q, m_logs_64 (M := mG M (fun j => if j < M.2.2 then M.2.1 33 j else 0)) (e := e) he (by show 4 * e + 4 ≤ 2 * M.2.2; omega) (by show 2 * M.2.2 ≤ 2048000; omega)]
    refine ⟨_, rfl, rfl, fun k hk => ?_, fun j hj => ?_, lgR_0, lgR_1, lgR_2, lgR_3, ?_, ?_⟩
    · rw [mI_21, mR_get, if_neg hk]; exact if_neg hk
    · show lgR _ e x y z _ j = _
      rw [lgR_lt hj]
      show (if j < M.2.2 then M.2.1 33 j else 0) = _
      rw [if_pos (by omega)]
    · show 4 * (e + 1) ≤ 2 * M.2.2; omega
    · show lnOK (2 * M.2.2)
      unfold lnOK; omega
/-- a is ahead of b -/
def ahd (M : MS) (a b : Nat) : Prop := M.2.1 10 a < M.2.1 10 b ∨ (M.2.1 10 a = M.2.1 10 b ∧ a < b)
theorem m_isAhead {M : MS} {a b : Nat} (ha : a < 80) (hb : b < 80) : ∃ r : Int32, f_X4_isAhead (nI a) (nI b) M = some (r, M) ∧ (r = 0 ↔ ¬ ahd M a b) := by
  unfold f_X4_isAhead ahd
  rw [if_pos (ck a 80 (by omega)), if_pos (ck b 80 (by omega)), nc a (by omega), nc b (by omega)]
  by_cases h1 : M.2.1 10 a < M.2.1 10 b
  · rw [if_pos h1]; exact ⟨1, rfl, by simp [h1]⟩
  · rw [if_neg h1]
    by_cases h2 : M.2.1 10 a = M.2.1 10 b
    · rw [if_pos h2]
      by_cases h3 : b ≤ a
      · rw [if_pos (np_ h3 (by omega) (by omega))]; exact ⟨0, rfl, by simp [h1, h3]⟩
      · rw [if_neg (nn h3 (by omega) (by omega))]; exact ⟨1, rfl, by simp only [h1, h2, false_or, true_and]; constructor <;> intro q <;> first | (exact absurd q (by decide)) | (exfalso; omega)⟩
    · rw [if_neg h2]; exact ⟨0, rfl, by simp [h1, h2]⟩
/-- a row with a hole at k, what was behind it one place further -/
def shf (od : Nat → Int32) (k m : Nat) : Nat → Int32 := fun i => if k < i ∧ i ≤ m then od (i - 1) else od i
theorem shf_m (od : Nat → Int32) (m : Nat) : shf od m m = od := by
  funext i; simp only [shf]; rw [if_neg (by omega)]
theorem shf_s {od : Nat → Int32} {k m : Nat} (h : k + 1 ≤ m) : upd (shf od (k + 1) m) (k + 1) (od k) = shf od k m := by
  funext i; simp only [shf, upd_get]
  by_cases h1 : i = k + 1
  · rw [if_pos h1, if_pos (by omega), h1]; rfl
  · rw [if_neg h1]
    by_cases h2 : k + 1 < i ∧ i ≤ m
    · rw [if_pos h2, if_pos (by omega)]
    · rw [if_neg h2, if_neg (by omega)]
theorem m_sorts_28 {M : MS} {K : Int32 → Int32 → Int32 → MS → Option (Int32 × MS)} {h : Int32} {od : Nat → Int32} {f : Nat → Nat} {m a : Nat} (ha : a < 80) (hm : m ≤ 79) (hod : ∀ i, i < m → od i = nI (f i) ∧ f i < 80) (fu k : Nat) (hf : k < fu) (hk : k ≤ m) : ∃ k', k' ≤ k ∧ f_X4_sorts_28 K fu h (nI m) (nI a) (nI k) (mR M 36 (shf od k m)) = K h (nI (m + 1)) (nI (a + 1)) (mR M 36 (upd (shf od k' m) k' (nI a))) ∧ (∀ i, k' ≤ i → i < k → ahd M a (f i)) ∧ (k' = 0 ∨ ¬ ahd M a (f (k' - 1))) := by
  induction fu generalizing k with
  | zero => omega
  | succ fu ih =>
    rw [f_X4_sorts_28]
    have stop : f_X4_sorts_72 K h (nI m) (nI a) (nI k) (mR M 36 (shf od k m)) = K h (nI (m + 1)) (nI (a + 1)) (mR M 36 (upd (shf od k m) k (nI a))) := by
      rw [f_X4_sorts_72, if_pos (ck k 80 (by omega)), nc k (by omega), k_ls, f_X4_sorts_83, n1, nI_add, nI_add, mA_R, mR_R]
      rfl
    by_cases h0 : k = 0
    · subst h0
      rw [n0, if_pos (np_ (Nat.le_refl 0) (by omega) (by omega))]
      exact ⟨0, Nat.le_refl _, stop, fun i _ hi => by omega, Or.inl rfl⟩
    · obtain ⟨d, rfl⟩ : ∃ d, k = d + 1 := ⟨k - 1, by omega⟩
      rw [n0, if_neg (nn (by omega) (by omega) (by omega)), n1, show nI (d + 1) - nI 1 = nI d from nI_pred d, if_pos (ck d 80 (by omega)), nc d (by omega)]
      have hsd : (mR M 36 (shf od (d + 1) m)).2.1 36 d = nI (f d) := by
        rw [mR_get, if_pos rfl]; simp only [shf]; rw [if_neg (by omega)]; exact (hod d (by omega)).1
      rw [hsd]
      obtain ⟨r, e1, e2⟩ := m_isAhead (M := mR M 36 (shf od (d + 1) m)) (a := a) (b := f d) ha (hod d (by omega)).2
      rw [e1, k_bs]
      have e2 : r = 0 ↔ ¬ ahd M a (f d) := e2
      by_cases hr : r = 0
      · rw [if_pos (show r = nI 0 from hr)]
        exact ⟨d + 1, Nat.le_refl _, stop, fun i _ hi => by omega, Or.inr (e2.mp hr)⟩
      · rw [if_neg (show ¬ r = nI 0 from hr), if_pos (ck (d + 1) 80 (by omega)), nc (d + 1) (by omega), k_ls, mA_R, mR_R, hsd, ← (hod d (by omega)).1]
        have e3 : (mR M 36 (shf od (d + 1) m)).2.1 36 = shf od (d + 1) m := rfl
        rw [e3, shf_s (by omega)]
        obtain ⟨k', g1, g2, g3, g4⟩ := ih d (by omega) (by omega)
        refine ⟨k', by omega, g2, fun i hi1 hi2 => ?_, g4⟩
        by_cases hid : i = d
        · subst hid; exact Classical.byContradiction (fun q => hr (e2.mpr q))
        · exact g3 i hi1 (by omega)
