/-! bits of longs: rows of the starting text BITS -/
theorem wb_tb (n : Nat) : (lN n).toBitVec = BitVec.ofNat 64 n := rfl
theorem wb_inj {a b : Int64} (h : a.toBitVec = b.toBitVec) : a = b := Int64.toBitVec_inj.mp h
theorem wb_tn {n : Nat} (h : n < 2 ^ 64) : (lN n).toBitVec.toNat = n := by rw [wb_tb, BitVec.toNat_ofNat, Nat.mod_eq_of_lt h]
theorem wb_c : ∀ k, k < 64 → ((nI k).toInt64 &&& 63) = lN k := by decide +kernel
theorem wb_sm : ∀ k, k < 64 → (BitVec.ofNat 64 k).smod 64 = BitVec.ofNat 64 k := by decide +kernel
theorem wb_pw {a b : Nat} (h : a ≤ b) : 2 ^ b = 2 ^ a * 2 ^ (b - a) := by rw [← Nat.pow_add]; congr 1; omega
theorem wb_lt2 {a b : Nat} (h : a < b) : 2 ^ a < 2 ^ b := Nat.pow_lt_pow_right (by decide) h
theorem wb_mod (n : Nat) : lN n = lN (n % 2 ^ 64) := wb_inj (by rw [wb_tb, wb_tb]; apply BitVec.eq_of_toNat_eq; rw [BitVec.toNat_ofNat, BitVec.toNat_ofNat, Nat.mod_mod])
theorem wb_shl (n : Nat) {k : Nat} (hk : k < 64) : lN n <<< ((nI k).toInt64 &&& 63) = lN (n * 2 ^ k) := by
  rw [wb_c k hk]
  apply wb_inj
  rw [Int64.toBitVec_shiftLeft, wb_tb, wb_tb, wb_tb, wb_sm k hk]
  apply BitVec.eq_of_toNat_eq
  rw [BitVec.shiftLeft_eq', BitVec.toNat_shiftLeft, BitVec.toNat_ofNat, BitVec.toNat_ofNat, BitVec.toNat_ofNat, Nat.mod_eq_of_lt (show k < 2 ^ 64 by omega), Nat.shiftLeft_eq, Nat.mul_mod, Nat.mod_mod, ← Nat.mul_mod]
theorem wb_and {a b : Nat} (ha : a < 2 ^ 64) (hb : b < 2 ^ 64) : lN a &&& lN b = lN (a &&& b) := by
  apply wb_inj
  rw [Int64.toBitVec_and, wb_tb, wb_tb, wb_tb]
  apply BitVec.eq_of_toNat_eq
  rw [BitVec.toNat_and, BitVec.toNat_ofNat, BitVec.toNat_ofNat, BitVec.toNat_ofNat, Nat.mod_eq_of_lt ha, Nat.mod_eq_of_lt hb, Nat.mod_eq_of_lt (Nat.and_lt_two_pow _ hb)]
theorem wb_or {a b : Nat} (ha : a < 2 ^ 64) (hb : b < 2 ^ 64) : lN a ||| lN b = lN (a ||| b) := by
  apply wb_inj
  rw [Int64.toBitVec_or, wb_tb, wb_tb, wb_tb]
  apply BitVec.eq_of_toNat_eq
  rw [BitVec.toNat_or, BitVec.toNat_ofNat, BitVec.toNat_ofNat, BitVec.toNat_ofNat, Nat.mod_eq_of_lt ha, Nat.mod_eq_of_lt hb, Nat.mod_eq_of_lt (Nat.or_lt_two_pow ha hb)]
theorem wb_mask {n k : Nat} (hn : n < 2 ^ 64) (hk : k < 64) : lN n &&& lN (2 ^ k - 1) = lN (n % 2 ^ k) := by
  rw [wb_and hn (by have := wb_lt2 hk; omega), Nat.and_two_pow_sub_one_eq_mod]
theorem wb_a1 {n : Nat} (hn : n < 2 ^ 64) : lN n &&& 1 = lN (n % 2) := wb_mask (k := 1) hn (by decide)
theorem pf_lI {a : Nat} (h : a < 2 ^ 63) : (lN a).toInt = (a : Int) := lg_ofNat_toInt h
theorem pf_shr {a d : Nat} {D : Int64} (hD : (D.toBitVec.smod 64).toNat = d) (h : a < 2 ^ 62) : lN a >>> D = lN (a / 2 ^ d) := by
  have hd : a / 2 ^ d ≤ a := Nat.div_le_self _ _
  apply Int64.toInt_inj.mp
  have e : (lN a >>> D).toInt = (lN a).toInt >>> d := by
    rw [← hD]
    exact BitVec.toInt_sshiftRight ..
  rw [e, Int.shiftRight_eq_div_pow, pf_lI (by omega), pf_lI (by omega)]
  rfl
/-- the rows of bits -/
def LB (g : Nat → Int64) (A : Nat → Nat) (m : Nat) : Prop := ∀ i, i < m → g i = lN (A i) ∧ A i < 2 ^ 36
theorem lt_36 {a : Nat} (h : a < 2 ^ 36) : a < 68719476736 := h
theorem bit_test {a j : Nat} (ha : a < 2 ^ 36) (hj : j < 64) : lg_cmp ((lN a >>> ((nI j).toInt64 &&& 63)) &&& 1) 0 = 0 ↔ a.testBit j = false := by
  have h36 := lt_36 ha
  have hD : ((((nI j).toInt64 &&& 63) : Int64).toBitVec.smod 64).toNat = j := by
    rw [wb_c j hj, wb_tb, wb_sm j hj, BitVec.toNat_ofNat, Nat.mod_eq_of_lt (by omega)]
  rw [pf_shr hD (by show a < 4611686018427387904; omega)]
  have hd : a / 2 ^ j ≤ a := Nat.div_le_self _ _
  rw [wb_a1 (by show a / 2 ^ j < 18446744073709551616; omega), Nat.testBit_eq_decide_div_mod_eq]
  have hm : a / 2 ^ j % 2 = 0 ∨ a / 2 ^ j % 2 = 1 := by omega
  rcases hm with q | q
  · rw [q]; simp only [show (lg_cmp (lN 0) 0 = 0) ↔ True from by decide]; decide
  · rw [q]; simp only [show (lg_cmp (lN 1) 0 = 0) ↔ False from by decide]; decide
def wst (k : Nat) (A : Nat → Nat) : Nat → Nat := fun i => if (A i).testBit k then A i ||| A k else A i
theorem or_36 {a b : Nat} (ha : a < 2 ^ 36) (hb : b < 2 ^ 36) : a ||| b < 2 ^ 36 := Nat.or_lt_two_pow ha hb
theorem or_lN {a b : Nat} (ha : a < 2 ^ 36) (hb : b < 2 ^ 36) : lN a ||| lN b = lN (a ||| b) := wb_or (Nat.lt_trans ha (by decide)) (Nat.lt_trans hb (by decide))
theorem vpL_get (f : Nat → Int64) (k j : Nat) (v : Int64) : vp_updL f k v j = if j = k then v else f j := rfl
theorem cL_1 (C : CS) (k : Nat) (f : Nat → Int64) : (cLF C k f).1 = C.1 := rfl
theorem cL_g (C : CS) (k j : Nat) (f : Nat → Int64) : (cLF C k f).2.2.1 j = if j = k then f else C.2.2.1 j := rfl
theorem cL_L (C : CS) (k : Nat) (f g : Nat → Int64) : cLF (cLF C k f) k g = cLF C k g := by
  simp only [cLF, va_upup]
theorem cL_id (C : CS) (k : Nat) : cLF C k (C.2.2.1 k) = C := by
  simp only [cLF, va_upid]
theorem c_close_29 {C : CS} {m k : Nat} {A : Nat → Nat} (hm : m ≤ 36) (h32 : C.1 32 = nI m) (hk : k < m) (K : Int32 → CS → Option (Int32 × CS)) (fu i : Nat) (g : Nat → Int64) (hf : m < fu + i) (hi : i ≤ m) (hg : LB g (fun x => if x < i then wst k A x else A x) m) (hA : ∀ x, x < m → A x < 2 ^ 36) : ∃ g' : Nat → Int64, f_X2_close_29 K fu (nI k) (nI i) (cLF C 31 g) = K (nI (k + 1)) (cLF C 31 g') ∧ LB g' (wst k A) m := by
  induction fu generalizing i g with
  | zero => omega
  | succ fu ih =>
    rw [f_X2_close_29]
    rw [show (cLF C 31 g).1 32 = nI m from h32, show (cLF C 31 g).2.2.1 31 = g from rfl]
    by_cases h : m ≤ i
    · rw [if_pos (np_ h (by omega) (by omega)), n1, nI_add]
      exact ⟨g, rfl, fun x hx => by have := hg x hx; simp only [if_pos (show x < i by omega)] at this; exact this⟩
    · rw [if_neg (nn h (by omega) (by omega)), if_pos (ck i 36 (by omega)), nc i (by omega)]
      have gi := hg i (by omega)
      simp only [if_neg (show ¬ i < i by omega)] at gi
      rw [gi.1]
      have hkA : g k = lN (A k) := by
        have := (hg k hk).1
        rw [this]
        by_cases q : k < i
        · simp only [if_pos q, wst]; split
          · rw [Nat.or_self]
          · rfl
        · simp only [if_neg q]
      by_cases hb : (A i).testBit k
      · rw [if_neg (fun q => by rw [(bit_test gi.2 (by omega)).mp q] at hb; exact absurd hb (by decide)), if_pos (ck k 36 (by omega)), nc k (by omega), k_ls, f_X2_close_67, n1, nI_add, cL_L, hkA, or_lN gi.2 (hA k hk)]
        refine ih (i + 1) _ (by omega) (by omega) (fun x hx => ?_)
        show vp_updL g i (lN (A i ||| A k)) x = lN (if x < i + 1 then wst k A x else A x) ∧ (if x < i + 1 then wst k A x else A x) < 2 ^ 36
        rw [vpL_get]
        by_cases q : x = i
        · subst q; rw [if_pos rfl, if_pos (by omega)]; simp only [wst]; rw [if_pos hb]; exact ⟨rfl, or_36 gi.2 (hA k hk)⟩
        · rw [if_neg q]
          have gx := hg x hx
          by_cases q2 : x < i
          · simp only [if_pos q2] at gx; rw [if_pos (by omega)]; exact gx
          · simp only [if_neg q2] at gx; rw [if_neg (by omega)]; exact gx
      · have hb2 : (A i).testBit k = false := by cases h9 : (A i).testBit k <;> simp_all
        rw [if_pos ((bit_test gi.2 (by omega)).mpr hb2), f_X2_close_67, n1, nI_add]
        refine ih (i + 1) g (by omega) (by omega) (fun x hx => ?_)
        have gx := hg x hx
        show g x = lN (if x < i + 1 then wst k A x else A x) ∧ (if x < i + 1 then wst k A x else A x) < 2 ^ 36
        by_cases q : x = i
        · subst q; rw [if_pos (by omega)]; simp only [wst]; rw [if_neg hb]; exact gi
        · by_cases q2 : x < i
          · simp only [if_pos q2] at gx; rw [if_pos (by omega)]; exact gx
          · simp only [if_neg q2] at gx; rw [if_neg (by omega)]; exact gx
def wAll (A : Nat → Nat) : Nat → Nat → Nat
  | 0 => A
  | k + 1 => wst k (wAll A k)
theorem c_close_19 {C : CS} {m : Nat} {A : Nat → Nat} (hm : m ≤ 36) (h32 : C.1 32 = nI m) (fu k : Nat) (g : Nat → Int64) (hf : m < fu + k) (hk : k ≤ m) (hg : LB g (wAll A k) m) : ∃ g' : Nat → Int64, f_X2_close_19 fu (nI k) (cLF C 31 g) = some (0, cLF C 31 g') ∧ LB g' (wAll A m) m := by
  induction fu generalizing k g with
  | zero => omega
  | succ fu ih =>
    rw [f_X2_close_19, show (cLF C 31 g).1 32 = nI m from h32]
    by_cases h : m ≤ k
    · rw [if_pos (np_ h (by omega) (by omega))]
      have : k = m := by omega
      subst this
      exact ⟨g, rfl, hg⟩
    · rw [if_neg (nn h (by omega) (by omega))]
      obtain ⟨g', e1, e2⟩ := c_close_29 (C := C) (k := k) (A := wAll A k) hm h32 (by omega) (fun v1 C => f_X2_close_19 fu v1 C) 200 0 g (by omega) (by omega) (fun x hx => by simp only [if_neg (show ¬ x < 0 by omega)]; exact hg x hx) (fun x hx => (hg x hx).2)
      rw [show (0 : Int32) = nI 0 from rfl, e1]
      exact ih (k + 1) g' (by omega) (by omega) e2
theorem c_close {C : CS} {m : Nat} {A : Nat → Nat} (hm : m ≤ 36) (h32 : C.1 32 = nI m) (hg : LB (C.2.2.1 30) A m) : ∃ g' : Nat → Int64, f_X2_close C = some (0, cLF C 31 g') ∧ LB g' (wAll A m) m := by
  unfold f_X2_close
  have hz : (0 : Int32).toInt = 0 := by decide
  have hz2 : (0 : Int32).toNatClampNeg = 0 := by decide
  have hmI : (nI m).toInt = m := nI_toInt (by omega)
  rw [h32, nc m (by omega), hz, hz2, hmI, if_pos (by omega), k_ls]
  exact c_close_19 hm h32 200 0 _ (by omega) (by omega) (fun i hi => by
    rw [pk_cpy_in (f := C.2.2.1 30) (g := C.2.2.1 31) (sp := 0) (dp := 0) (n := m) (j := i) (by omega) (by omega), Nat.zero_add, Nat.sub_zero]
    exact hg i hi)
/-- what close finds: whom each slot waits for, by others too -/
theorem wst_bit {A : Nat → Nat} {k i j : Nat} : (wst k A i).testBit j = true ↔ ((A i).testBit j = true ∨ ((A i).testBit k = true ∧ (A k).testBit j = true)) := by
  simp only [wst]
  by_cases h : (A i).testBit k = true
  · rw [if_pos h, Nat.testBit_or, Bool.or_eq_true]; simp [h]
  · rw [if_neg h]; simp [h]
theorem wAll_tr {A : Nat → Nat} (k : Nat) : ∀ x, x < k → ∀ i j, (wAll A k i).testBit x = true → (wAll A k x).testBit j = true → (wAll A k i).testBit j = true := by
  induction k with
  | zero => intro x hx; omega
  | succ k ih =>
    intro x hx i j h1 h2
    simp only [wAll, wst_bit] at h1 h2 ⊢
    by_cases hxk : x = k
    · subst hxk
      have hi : (wAll A x i).testBit x = true := by rcases h1 with q | q; exact q; exact q.1
      have hj : (wAll A x x).testBit j = true := by rcases h2 with q | q; exact q; exact q.2
      exact Or.inr ⟨hi, hj⟩
    · have hx : x < k := by omega
      rcases h1 with q1 | ⟨q1, q2⟩ <;> rcases h2 with r1 | ⟨r1, r2⟩
      · exact Or.inl (ih x hx i j q1 r1)
      · exact Or.inr ⟨ih x hx i k q1 r1, r2⟩
      · exact Or.inr ⟨q1, ih x hx k j q2 r1⟩
      · exact Or.inr ⟨q1, r2⟩
theorem wAll_mono {A : Nat → Nat} (k i j : Nat) (h : (A i).testBit j = true) : (wAll A k i).testBit j = true := by
  induction k with
  | zero => exact h
  | succ k ih => simp only [wAll, wst_bit]; exact Or.inl ih
/-- the edge of two slots -/
def sE (A : Nat → Nat) (m : Nat) (x y : Nat) : Prop := x < m ∧ y < m ∧ (A x).testBit y = true
theorem wAll_sound {A : Nat → Nat} {m : Nat} (k : Nat) (hk : k ≤ m) : ∀ i j, i < m → j < m → (wAll A k i).testBit j = true → Relation.TransGen (sE A m) i j := by
  induction k with
  | zero => intro i j hi hj h; exact Relation.TransGen.single ⟨hi, hj, h⟩
  | succ k ih =>
    intro i j hi hj h
    simp only [wAll, wst_bit] at h
    rcases h with q | ⟨q1, q2⟩
    · exact ih (by omega) i j hi hj q
    · exact Relation.TransGen.trans (ih (by omega) i k hi (by omega) q1) (ih (by omega) k j (by omega) hj q2)
theorem wAll_iff {A : Nat → Nat} {m i j : Nat} (hi : i < m) (hj : j < m) : (wAll A m i).testBit j = true ↔ Relation.TransGen (sE A m) i j := by
  refine ⟨wAll_sound m (Nat.le_refl _) i j hi hj, fun h => ?_⟩
  have key : ∀ y, Relation.TransGen (sE A m) i y → (wAll A m i).testBit y = true := by
    intro y hy
    induction hy with
    | single h => exact wAll_mono m i _ h.2.2
    | tail h1 h2 ih => exact wAll_tr m _ h2.1 i _ ih (wAll_mono m _ _ h2.2.2)
  exact key j h
theorem c_isInRing {C : CS} {m i : Nat} {B : Nat → Nat} (hm : m ≤ 36) (hg : LB (C.2.2.1 31) B m) (hi : i < m) : ∃ r : Int32, f_X2_isInRing (nI i) C = some (r, C) ∧ (r = 0 ∨ r = 1) ∧ (r = 1 ↔ (B i).testBit i = true) := by
  unfold f_X2_isInRing
  rw [if_pos (ck i 36 (by omega)), nc i (by omega), (hg i hi).1]
  by_cases h : (B i).testBit i = true
  · rw [if_neg (fun q => by rw [(bit_test (hg i hi).2 (by omega)).mp q] at h; exact absurd h (by decide))]
    exact ⟨1, rfl, Or.inr rfl, fun _ => h, fun _ => rfl⟩
  · have h2 : (B i).testBit i = false := by cases h9 : (B i).testBit i <;> simp_all
    rw [if_pos ((bit_test (hg i hi).2 (by omega)).mpr h2)]
    exact ⟨0, rfl, Or.inl rfl, fun q => absurd q (by decide), fun q => absurd q h⟩
