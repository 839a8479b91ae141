/-! ===== the relation of class and reference ===== -/
/-- a STEP that can be -/
def SOK (s : Int32) : Prop := ∃ k : Nat, k < 2147483648 ∧ s = nI k ∧ k / 10000 ≤ 8 ∧ ((k / 10000 = 0 ∨ k / 10000 = 3 ∨ k / 10000 = 4) → k / 100 % 100 < 24) ∧ ((k / 10000 = 6 ∨ k / 10000 = 7) → k / 100 % 100 < 8)
/-- an act that is begun -/
def BEG (C : CS) (M : MS) (a : Nat) : Prop := ∃ l s q : Nat, l ≤ 12 ∧ M.2.1 12 a = nI l ∧ gP C a 10 = nI l ∧ s < l ∧ M.2.1 14 a = nI s ∧ gP C a 14 = nI s ∧ q ≤ s ∧ M.2.1 28 a = nI q ∧ gP C a 11 = nI q ∧ gP C a 13 = M.2.1 15 a ∧ -1000000 ≤ (M.2.1 15 a).toInt ∧ (M.2.1 15 a).toInt ≤ 1000000 ∧ (∀ j, j < l → gQ C a 4 j = M.2.1 13 (12 * a + j) ∧ SOK (M.2.1 13 (12 * a + j))) ∧ (∀ j, j < q → gQ C a 9 j = M.2.1 27 (12 * a + j) ∧ ∃ p, p < 8 ∧ M.2.1 27 (12 * a + j) = nI p) ∧ (∀ c, c < 24 → gQ C a 5 c = M.2.1 23 (24 * a + c) ∧ (∃ h, h ≤ 2 ∧ M.2.1 23 (24 * a + c) = nI h) ∧ (M.2.1 23 (24 * a + c) = 2 → gQ C a 6 c = M.2.1 24 (24 * a + c))) ∧ ∀ c, c < 8 → gQ C a 7 c = M.2.1 25 (8 * a + c) ∧ gQ C a 8 c = M.2.1 26 (8 * a + c)
/-- an act that is done or answered -/
def DON (C : CS) (M : MS) (t a : Nat) : Prop := (∀ c, c < 24 → (gQ C a 5 c = 2 ↔ M.2.1 23 (24 * a + c) = 3) ∧ (M.2.1 23 (24 * a + c) = 3 → gQ C a 6 c = M.2.1 24 (24 * a + c))) ∧ (∀ c, c < 8 → gQ C a 7 c = M.2.1 25 (8 * a + c)) ∧ ∃ s, s < t ∧ M.2.1 17 a = nI s
/-- of one act -/
def RA (C : CS) (M : MS) (t a : Nat) : Nat → Prop
  | 0 => gP C a 0 = M.2.1 8 a ∧ ∃ p, p < 8 ∧ M.2.1 8 a = nI p
  | 1 => gP C a 1 = M.2.1 9 a ∧ ∃ p, p < 4 ∧ M.2.1 9 a = nI p
  | 2 => gP C a 2 = M.2.1 10 a
  | 3 => gP C a 3 = M.2.1 19 a ∧ (M.2.1 19 a = -1 ∨ ∃ b, b < a ∧ M.2.1 19 a = nI b)
  | 4 => gP C a 12 = M.2.1 11 a ∧ ∃ s, s ≤ 4 ∧ M.2.1 11 a = nI s
  | 5 => gP C a 16 = M.2.1 20 a ∧ gP C a 17 = M.2.1 17 a ∧ gP C a 19 = M.2.1 18 a
  | 6 => M.2.1 11 a = 1 → BEG C M a
  | 7 => (M.2.1 11 a = 2 ∨ M.2.1 11 a = 3) → DON C M t a
  | 8 => M.2.1 11 a = 0 → (∀ c, c < 24 → gQ C a 5 c = 0) ∧ (∀ c, c < 8 → gQ C a 7 c = 0 ∧ gQ C a 8 c = 0) ∧ gP C a 11 = 0
  | 9 => gP C a 15 = -1 ∨ ∃ s, s < t ∧ gP C a 15 = nI s
  | 10 => M.2.1 21 a = 0 ∨ (M.2.1 21 a = 1 ∧ M.2.1 11 a = 4 ∧ gP C a 18 = -1)
  | 11 => ∀ b : Nat, b < 80 → M.2.1 19 a = nI b → M.2.1 21 a = 1 ∨ M.2.1 11 b = 2 ∨ M.2.1 11 b = 3
  | 12 => M.2.1 11 a = 2 ∨ M.2.1 11 a = 3 ∨ M.2.1 17 a = -1
  | _ => True
/-- the acts of a class that are begun, of the first n -/
def cntK (M : MS) (k : Nat) : Nat → Nat
  | 0 => 0
  | n + 1 => cntK M k n + if M.2.1 11 n = 1 ∧ M.2.1 9 n = nI k then 1 else 0
/-- a cell as the first d of the row of done acts tell it -/
def vCell (M : MS) (c : Nat) : Nat → Int32
  | 0 => 0
  | d + 1 => if M.2.1 23 (24 * (M.2.1 30 d).toNatClampNeg + c) = 3 then M.2.1 24 (24 * (M.2.1 30 d).toNatClampNeg + c) else vCell M c d
def vCnt (M : MS) (c : Nat) : Nat → Int32
  | 0 => 0
  | d + 1 => vCnt M c d + M.2.1 25 (8 * (M.2.1 30 d).toNatClampNeg + c)
/-- class and reference: n acts, now t, (what is done or held was so below u,) d done, e entries, kp of them kept, fa falls; between two calls u = t -/
def RI (C : CS) (M : MS) (n t u d e kp fa : Nat) : Nat → Prop
  | 0 => M.1 7 = nI n ∧ C.1 12 = nI n ∧ gN C = n ∧ n ≤ 80
  | 1 => M.1 0 = nI t ∧ C.1 15 = nI t ∧ t ≤ 5000
  | 2 => M.1 29 = nI d ∧ C.1 13 = nI d ∧ d ≤ n
  | 3 => M.1 31 = nI e ∧ C.1 21 = nI e ∧ 4 * e ≤ M.2.2 ∧ lnOK M.2.2 ∧ e ≤ gE C ∧ isE (gE C)
  | 4 => M.1 32 = nI kp ∧ C.1 22 = nI kp ∧ kp ≤ e
  | 5 => C.1 16 = M.1 34 ∧ C.1 17 = nI fa ∧ M.1 35 = nI fa ∧ fa ≤ 512
  | 6 => ∀ j, j < 8 → C.2.1 1 j = M.2.1 5 j ∧ ∃ l, l ≤ 12 ∧ M.2.1 5 j = nI l
  | 7 => ∀ j, j < 96 → C.2.1 0 j = M.2.1 6 j ∧ SOK (M.2.1 6 j)
  | 8 => ∀ j, j < 4 → C.2.1 2 j = M.2.1 4 j ∧ ∃ l, l ≤ 9 ∧ M.2.1 4 j = nI l
  | 9 => ∀ j, j < 8 → C.2.1 3 j = M.2.1 3 j
  | 10 => ∀ j, j < 24 → C.2.1 4 j = M.2.1 1 j ∧ M.2.1 1 j = vCell M j d
  | 11 => ∀ j, j < 8 → C.2.1 4 (24 + j) = M.2.1 2 j ∧ M.2.1 2 j = vCnt M j d
  | 12 => ∀ a, a < n → ∀ i, RA C M u a i
  | 13 => ∃ f : Nat → Nat, (∀ i, i < n → C.2.1 6 i = nI (f i) ∧ f i < n) ∧ (∀ x, x < n → ∃ i, i < n ∧ f i = x) ∧ ∀ i j, i < j → j < n → ahd M (f i) (f j)
  | 14 => ∀ i, i < d → C.2.1 7 i = M.2.1 30 i ∧ ∃ b, b < n ∧ M.2.1 30 i = nI b ∧ (M.2.1 11 b = 2 ∨ M.2.1 11 b = 3)
  | 15 => ∀ i j, i < j → j < d → M.2.1 30 i ≠ M.2.1 30 j
  | 16 => ∀ b, b < n → (M.2.1 11 b = 2 ∨ M.2.1 11 b = 3) → ∃ i, i < d ∧ M.2.1 30 i = nI b
  | 17 => ∀ i, i < e → ∃ k a s : Nat, k < 5 ∧ a < 80 ∧ s ≤ 5000 ∧ M.2.1 33 (4 * i) = nI k ∧ M.2.1 33 (4 * i + 1) = nI a ∧ (M.2.1 33 (4 * i + 2) = -1 ∨ ∃ c, c < 24 ∧ M.2.1 33 (4 * i + 2) = nI c) ∧ M.2.1 33 (4 * i + 3) = nI s ∧ C.2.1 20 i = enc (M.2.1 33 (4 * i)) (M.2.1 33 (4 * i + 1)) (M.2.1 33 (4 * i + 2)) (M.2.1 33 (4 * i + 3))
  | 18 => ∀ a, a < n → M.2.1 11 a = 2 → ∃ i, kp ≤ i ∧ i < e ∧ gP C a 18 = nI i ∧ M.2.1 33 (4 * i) = 2 ∧ M.2.1 33 (4 * i + 1) = nI a
  | 19 => ∀ i, kp ≤ i → i < e → M.2.1 33 (4 * i) = 2 → ∃ a, a < n ∧ M.2.1 33 (4 * i + 1) = nI a ∧ M.2.1 11 a = 2 ∧ gP C a 18 = nI i
  | 20 => ∀ i, kp ≤ i → i < e → M.2.1 33 (4 * i) = 3 → ∃ a, a < n ∧ M.2.1 33 (4 * i + 1) = nI a ∧ M.2.1 11 a = 4 ∧ gP C a 18 = nI i ∧ M.2.1 21 a = 0
  | 21 => ∀ a, a < n → M.2.1 11 a = 4 → gP C a 18 = -1 ∨ ∃ i, i < e ∧ gP C a 18 = nI i ∧ (kp ≤ i → M.2.1 33 (4 * i) = 3 ∧ M.2.1 33 (4 * i + 1) = nI a)
  | 22 => ∀ i j a b x y : Nat, i < j → j < d → M.2.1 30 i = nI a → a < 80 → M.2.1 30 j = nI b → b < 80 → M.2.1 11 a = 2 → M.2.1 11 b = 2 ∧ (gP C a 18 = nI x → x < e → gP C b 18 = nI y → y < e → x < y)
  | 23 => ∀ j b p : Nat, j < d → M.2.1 30 j = nI b → b < 80 → M.2.1 19 b = nI p → p < 80 → ∃ i, i < j ∧ M.2.1 30 i = nI p
  | 24 => ∀ k, k < 4 → cntK M k n ≤ 9
  | 25 => ∀ a, n ≤ a → a < 80 → M.2.1 11 a = 0 ∧ M.2.1 18 a = 0 ∧ M.2.1 21 a = 0 ∧ M.2.1 16 a = 0
  | _ => True
/-- what law_all asks -/
def RLaw (j : Nat) (C : CS) (M : MS) : Prop := ∃ n t d e kp fa : Nat, (fa ≤ j ∧ e ≤ 72 * t + d + 80 * fa) ∧ ∀ i, RI C M n t t d e kp fa i
theorem RLaw_bds (j : Nat) (C : CS) (M : MS) (h : RLaw j C M) : lbd C M := by
  obtain ⟨n, t, d, e, kp, fa, -, h⟩ := h
  have h0 : M.1 7 = nI n ∧ C.1 12 = nI n ∧ gN C = n ∧ n ≤ 80 := h 0
  have h3 : M.1 31 = nI e ∧ C.1 21 = nI e ∧ 4 * e ≤ M.2.2 ∧ lnOK M.2.2 ∧ e ≤ gE C ∧ isE (gE C) := h 3
  obtain ⟨-, -, h03, h04⟩ := h0
  obtain ⟨-, -, -, h34, -, h36⟩ := h3
  unfold lnOK at h34; unfold isE at h36
  unfold lbd
  refine ⟨by omega, ?_, ?_, ?_, ?_⟩
  · clear h34; omega
  · clear h34; omega
  · clear h36; omega
  · clear h36; omega
theorem SOK_0 : SOK 0 := ⟨0, by omega, rfl, by omega, by omega, by omega⟩
/-- the start -/
theorem RLaw_0 (fl : Nat → Int32) (hfl : ∀ j : Nat, j < 4 → fl j = 3) : RLaw 0 C00 (M00 fl) := by
  refine ⟨0, 0, 0, 0, 0, 0, by omega, fun i => ?_⟩
  match i with
  | 0 => exact ⟨rfl, rfl, rfl, by omega⟩
  | 1 => exact ⟨rfl, rfl, by omega⟩
  | 2 => exact ⟨rfl, rfl, by omega⟩
  | 3 => exact ⟨rfl, rfl, by show 4 * 0 ≤ 4000; omega, Or.inl rfl, by omega, Or.inl rfl⟩
  | 4 => exact ⟨rfl, rfl, by omega⟩
  | 5 => exact ⟨rfl, rfl, rfl, by omega⟩
  | 6 => exact fun j hj => ⟨rfl, 0, by omega, rfl⟩
  | 7 => exact fun j hj => ⟨rfl, SOK_0⟩
  | 8 => exact fun j hj => ⟨by show k_fil 4 3 (fun _ => 0) j = fl j; rw [hfl j hj]; exact if_pos hj, 3, by omega, hfl j hj⟩
  | 9 => exact fun j hj => rfl
  | 10 => exact fun j hj => ⟨rfl, rfl⟩
  | 11 => exact fun j hj => ⟨rfl, rfl⟩
  | 12 => exact fun a ha => by omega
  | 13 => exact ⟨fun _ => 0, fun i hi => by omega, fun x hx => by omega, fun i j _ hj => by omega⟩
  | 14 => exact fun i hi => by omega
  | 15 => exact fun i j _ hj => by omega
  | 16 => exact fun b hb => by omega
  | 17 => exact fun i hi => by omega
  | 18 => exact fun a ha => by omega
  | 19 => exact fun i _ hi => by omega
  | 20 => exact fun i _ hi => by omega
  | 21 => exact fun a ha => by omega
  | 22 => exact fun i j a b x y _ hj => by omega
  | 23 => exact fun j b p hj => by omega
  | 24 => exact fun k _ => by show 0 ≤ 9; omega
  | 25 => exact fun a _ _ => ⟨rfl, rfl, rfl, rfl⟩
  | k + 26 => trivial
