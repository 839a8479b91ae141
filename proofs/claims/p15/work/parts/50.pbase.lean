/-! ===== the pure part: what the functions of class and reference do ===== -/
def mR (M : MS) (k : Nat) (f : Nat → Int32) : MS := (M.1, va_up M.2.1 k f, M.2.2)
theorem mA_R (M : MS) (k j : Nat) (v : Int32) : mA M k j v = mR M k (upd (M.2.1 k) j v) := rfl
theorem mR_1 (M : MS) (k : Nat) (f : Nat → Int32) : (mR M k f).1 = M.1 := rfl
theorem mR_22 (M : MS) (k : Nat) (f : Nat → Int32) : (mR M k f).2.2 = M.2.2 := rfl
theorem mR_get (M : MS) (k j : Nat) (f : Nat → Int32) : (mR M k f).2.1 j = if j = k then f else M.2.1 j := rfl
theorem mI_get (M : MS) (k j : Nat) (v : Int32) : (mI M k v).1 j = if j = k then v else M.1 j := rfl
theorem mI_21 (M : MS) (k : Nat) (v : Int32) : (mI M k v).2.1 = M.2.1 := rfl
theorem mI_22 (M : MS) (k : Nat) (v : Int32) : (mI M k v).2.2 = M.2.2 := rfl
theorem va_upup {α : Type} (f : Nat → α) (k : Nat) (v w : α) : va_up (va_up f k v) k w = va_up f k w := by
  funext j; simp only [va_up]; split <;> rfl
theorem va_upid {α : Type} (f : Nat → α) (k : Nat) : va_up f k (f k) = f := by
  funext j; simp only [va_up]; split
  · rename_i h; rw [h]
  · rfl
theorem mR_R (M : MS) (k : Nat) (f g : Nat → Int32) : mR (mR M k f) k g = mR M k g := by
  simp only [mR, va_upup]
theorem mR_id (M : MS) (k : Nat) : mR M k (M.2.1 k) = M := by
  simp only [mR, va_upid]
theorem upd_get (f : Nat → Int32) (k j : Nat) (v : Int32) : upd f k v j = if j = k then v else f j := rfl
/-- numbers as Int32: literals -/
theorem n0 : (0 : Int32) = nI 0 := rfl
theorem n1 : (1 : Int32) = nI 1 := rfl
theorem n2 : (2 : Int32) = nI 2 := rfl
theorem n3 : (3 : Int32) = nI 3 := rfl
theorem n4 : (4 : Int32) = nI 4 := rfl
theorem n8 : (8 : Int32) = nI 8 := rfl
theorem n12 : (12 : Int32) = nI 12 := rfl
theorem n24 : (24 : Int32) = nI 24 := rfl
/-- an index in range -/
theorem ix_in {k n : Nat} (h : k < n) (hn : n < 2147483648) : 0 ≤ (nI k).toInt ∧ (nI k).toInt < n := by
  rw [nI_toInt (by omega)]; omega
theorem ix24 (a c : Nat) : (24 : Int32) * nI a + nI c = nI (24 * a + c) := by rw [n24, pk_mul, nI_add]
theorem ix12 (a c : Nat) : (12 : Int32) * nI a + nI c = nI (12 * a + c) := by rw [n12, pk_mul, nI_add]
theorem ix8 (a c : Nat) : (8 : Int32) * nI a + nI c = nI (8 * a + c) := by rw [n8, pk_mul, nI_add]
theorem ck (k : Nat) (N : Int) (h : (k : Int) < N ∧ N ≤ 2147483648) : 0 ≤ (nI k).toInt ∧ (nI k).toInt < N := by
  rw [nI_toInt (by omega)]; omega
theorem nc (k : Nat) (h : k < 2147483648) : (nI k).toNatClampNeg = k := nI_clamp (by omega)
theorem nIc {k : Nat} (h : k < 2147483648) : (nI k).toNatClampNeg = k := nI_clamp (by omega)
theorem nIle {a b : Nat} (ha : a < 2147483648) (hb : b < 2147483648) : nI a ≤ nI b ↔ a ≤ b := nI_leI (by omega) (by omega)
theorem nIlt {a b : Nat} (ha : a < 2147483648) (hb : b < 2147483648) : nI a < nI b ↔ a < b := nI_ltI (by omega) (by omega)
theorem nIeq {a b : Nat} (ha : a < 2147483648) (hb : b < 2147483648) : nI a = nI b ↔ a = b := nI_eq (by omega) (by omega)
theorem k_bs {α β : Type} {r : Int32} {a : α} {f : Int32 → α → Option β} : k_bind (some (r, a)) f = f r a := rfl
theorem k_ls {α β : Type} {a : α} {f : α → Option β} : k_let a f = f a := rfl
/-- a row set to v at n places from s on -/
def rw_ (f : Nat → Int32) (s n : Nat) (v : Int32) : Nat → Int32 := fun i => if s ≤ i ∧ i < s + n then v else f i
theorem rw_0 (f : Nat → Int32) (s : Nat) (v : Int32) : rw_ f s 0 v = f := by
  funext i; simp only [rw_]; rw [if_neg (by omega)]
theorem rw_s (f : Nat → Int32) (s n : Nat) (v : Int32) : rw_ (upd f s v) (s + 1) n v = rw_ f s (n + 1) v := by
  funext i; simp only [rw_, upd_get]
  by_cases h : i = s
  · subst h; rw [if_neg (by omega), if_pos rfl, if_pos (by omega)]
  · by_cases h2 : s + 1 ≤ i ∧ i < s + 1 + n
    · rw [if_pos h2, if_pos (by omega)]
    · rw [if_neg h2, if_neg h, if_neg (by omega)]
/-- ===== the reference ===== -/
theorem m_in {x y z : Int32} : f_X4_in x y z = if y ≤ x ∧ x ≤ z then 1 else 0 := by
  unfold f_X4_in
  by_cases h1 : x < y
  · rw [if_pos h1, if_neg (fun q => by have a := k_le q.1; have b := k_lt h1; omega)]
  · rw [if_neg h1]
    by_cases h2 : z < x
    · rw [if_pos h2, if_neg (fun q => by have a := k_le q.2; have b := k_lt h2; omega)]
    · rw [if_neg h2, if_pos ⟨Int32.le_iff_toInt_le.mpr (k_nlt h1), Int32.le_iff_toInt_le.mpr (k_nlt h2)⟩]
theorem m_stepOf {M : MS} {a t : Nat} (ha : a < 80) (ht : M.2.1 14 a = nI t) (h12 : t < 12) : f_X4_stepOf (nI a) M = some (M.2.1 13 (12 * a + t), M) := by
  unfold f_X4_stepOf
  rw [if_pos (ck a 80 (by omega)), nc a (by omega), ht, ix12, if_pos (ck (12 * a + t) 960 (by omega)), nc (12 * a + t) (by omega)]
/-- does o bar a from the cell c (w: to write)? -/
def barsP (M : MS) (o a c : Nat) (w : Int32) : Prop := o ≠ a ∧ M.2.1 11 o = 1 ∧ ((w = 0 ∧ M.2.1 23 (24 * o + c) = 2) ∨ (w ≠ 0 ∧ ¬ M.2.1 23 (24 * o + c) ≤ 0))
theorem m_bars {M : MS} {o a c : Nat} {w : Int32} (ho : o < 80) (ha : a < 80) (hc : c < 24) : ∃ r : Int32, f_X4_bars (nI o) (nI a) (nI c) w M = some (r, M) ∧ (r = 0 ∨ r = 1) ∧ (r = 1 ↔ barsP M o a c w) := by
  unfold f_X4_bars barsP
  by_cases h1 : o = a
  · subst h1; rw [if_pos rfl]; exact ⟨0, rfl, Or.inl rfl, by simp⟩
  · rw [if_neg (fun q => h1 ((nIeq (by omega) (by omega)).mp q)), if_pos (ck o 80 (by omega)), nc o (by omega)]
    by_cases h2 : M.2.1 11 o = 1
    · rw [if_pos h2, ix24, if_pos (ck (24 * o + c) 1920 (by omega)), nc (24 * o + c) (by omega)]
      by_cases h3 : w = 0
      · rw [if_pos h3]
        by_cases h4 : M.2.1 23 (24 * o + c) = 2
        · rw [if_pos h4]; exact ⟨1, rfl, Or.inr rfl, by simp [h1, h2, h3, h4]⟩
        · rw [if_neg h4]; exact ⟨0, rfl, Or.inl rfl, by simp [h1, h2, h3, h4]⟩
      · rw [if_neg h3]
        by_cases h4 : M.2.1 23 (24 * o + c) ≤ 0
        · rw [if_pos h4]; exact ⟨0, rfl, Or.inl rfl, by simp [h1, h2, h3, h4]⟩
        · rw [if_neg h4]; exact ⟨1, rfl, Or.inr rfl, by simp [h1, h2, h3, h4]⟩
    · rw [if_neg h2]; exact ⟨0, rfl, Or.inl rfl, by simp [h1, h2]⟩
theorem m_isFree_3 {M : MS} {n a c : Nat} {w : Int32} (hn : M.1 7 = nI n) (hn80 : n ≤ 80) (ha : a < 80) (hc : c < 24) (k o : Nat) (hk : n < k + o) (ho : o ≤ n) : ∃ r : Int32, f_X4_isFree_3 k (nI a) (nI c) w (nI o) M = some (r, M) ∧ (r = 0 ∨ r = 1) ∧ (r = 0 ↔ ∃ x, o ≤ x ∧ x < n ∧ barsP M x a c w) := by
  induction k generalizing o with
  | zero => omega
  | succ k ih =>
    rw [f_X4_isFree_3, hn]
    by_cases h : n ≤ o
    · rw [if_pos ((nIle (by omega) (by omega)).mpr h)]; exact ⟨1, rfl, Or.inr rfl, fun q => absurd q (by decide), fun ⟨x, h1, h2, _⟩ => by omega⟩
    · rw [if_neg (fun q => h ((nIle (by omega) (by omega)).mp q))]
      obtain ⟨r, e1, e2, e3⟩ := m_bars (M := M) (o := o) (a := a) (c := c) (w := w) (by omega) ha hc
      rw [e1, k_bs]
      by_cases hr : r = 0
      · rw [if_pos hr, n1, nI_add]
        obtain ⟨r2, g1, g2, g3⟩ := ih (o + 1) (by omega) (by omega)
        refine ⟨r2, g1, g2, g3.trans ⟨fun ⟨x, q1, q2, q3⟩ => ⟨x, by omega, q2, q3⟩, fun ⟨x, q1, q2, q3⟩ => ⟨x, ?_, q2, q3⟩⟩⟩
        by_cases hx : x = o
        · subst hx; rw [hr] at e3; exact absurd (e3.mpr q3) (by decide)
        · omega
      · rw [if_neg hr]
        exact ⟨0, rfl, Or.inl rfl, by simp only [true_iff]; exact ⟨o, by omega, by omega, e3.mp (e2.resolve_left hr)⟩⟩
theorem m_isFree {M : MS} {n a c : Nat} {w : Int32} (hn : M.1 7 = nI n) (hn80 : n ≤ 80) (ha : a < 80) (hc : c < 24) : ∃ r : Int32, f_X4_isFree (nI a) (nI c) w M = some (r, M) ∧ (r = 0 ∨ r = 1) ∧ (r = 0 ↔ ∃ x, x < n ∧ barsP M x a c w) := by
  obtain ⟨r, h1, h2, h3⟩ := m_isFree_3 (M := M) (w := w) hn hn80 ha hc 200 0 (by omega) (by omega)
  exact ⟨r, h1, h2, h3.trans ⟨fun ⟨x, _, q2, q3⟩ => ⟨x, q2, q3⟩, fun ⟨x, q2, q3⟩ => ⟨x, by omega, q2, q3⟩⟩⟩
/-- what is below 0 of counter c of the acts from o on (n of them) that are begun -/
def mSum (M : MS) (c : Nat) : Nat → Nat → Int32 → Int32
  | 0, _, v => v
  | n + 1, o, v => mSum M c n (o + 1) (v + if M.2.1 11 o = 1 then M.2.1 26 (8 * o + c) else 0)
theorem m_least_9 {M : MS} {n c : Nat} (hn : M.1 7 = nI n) (hn80 : n ≤ 80) (hc : c < 8) (k o : Nat) (v : Int32) (hk : n < k + o) (ho : o ≤ n) : f_X4_least_9 k (nI c) v (nI o) M = some (mSum M c (n - o) o v, M) := by
  induction k generalizing o v with
  | zero => omega
  | succ k ih =>
    rw [f_X4_least_9, hn]
    by_cases h : n ≤ o
    · rw [if_pos ((nIle (by omega) (by omega)).mpr h), show n - o = 0 by omega]; rfl
    · rw [if_neg (fun q => h ((nIle (by omega) (by omega)).mp q)), if_pos (ck o 80 (by omega)), nc o (by omega)]
      obtain ⟨d, hd⟩ : ∃ d, n - o = d + 1 := ⟨n - o - 1, by omega⟩
      rw [hd]
      by_cases h2 : M.2.1 11 o = 1
      · rw [if_pos h2, ix8, if_pos (ck (8 * o + c) 640 (by omega)), nc (8 * o + c) (by omega), f_X4_least_43, n1, nI_add, ih (o + 1) _ (by omega) (by omega), show n - (o + 1) = d by omega]
        simp only [mSum, if_pos h2]
      · rw [if_neg h2, f_X4_least_43, n1, nI_add, ih (o + 1) _ (by omega) (by omega), show n - (o + 1) = d by omega]
        simp only [mSum, if_neg h2]
theorem m_least {M : MS} {n c : Nat} (hn : M.1 7 = nI n) (hn80 : n ≤ 80) (hc : c < 8) : f_X4_least (nI c) M = some (mSum M c n 0 (M.2.1 2 c), M) := by
  unfold f_X4_least
  rw [if_pos (ck c 8 (by omega)), nc c (by omega)]
  exact m_least_9 hn hn80 hc 200 0 _ (by omega) (by omega)
theorem m_seen {M : MS} {a c : Nat} (ha : a < 80) (hc : c < 24) : f_X4_seen (nI a) (nI c) M = some (if M.2.1 23 (24 * a + c) = 2 then M.2.1 24 (24 * a + c) else M.2.1 1 c, M) := by
  unfold f_X4_seen
  rw [ix24, if_pos (ck (24 * a + c) 1920 (by omega)), nc (24 * a + c) (by omega)]
  by_cases h : M.2.1 23 (24 * a + c) = 2
  · rw [if_pos h, if_pos h]
  · rw [if_neg h, if_neg h, if_pos (ck c 24 (by omega)), nc c (by omega)]
