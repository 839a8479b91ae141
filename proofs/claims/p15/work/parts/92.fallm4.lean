def ZF (M : MS) (n E e a : Nat) : Prop := a < n ∧ (M.2.1 11 a = 1 ∨ LX M E e a ∨ SX M E e a ∨ M.2.1 21 a = 1 ∨ VX M E e a)
theorem nI_sub2 {a b : Nat} (h : b ≤ a) : nI a - nI b = nI (a - b) := by
  have e : nI a = nI (a - b) + nI b := by rw [nI_add]; congr 1; omega
  rw [e]; exact Int32.add_sub_cancel _ _
/-- who is lost, who is stopped behind E: as the class has it -/
theorem LX_c {C : CS} {M : MS} {n t u d e kp fa E a : Nat} (h : ∀ i, RI C M n t u d e kp fa i) (hE : kp ≤ E) (ha : a < 80) (hL : LX M E e a) : a < n ∧ M.2.1 11 a = 2 ∧ ∃ j, E ≤ j ∧ j < e ∧ gP C a 18 = nI j := by
  obtain ⟨j, j1, j2, j3, j4⟩ := hL
  obtain ⟨x, x1, x2, x3, x4⟩ := h 19 j (by omega) j2 j3
  have n80 : n ≤ 80 := (h 0 : M.1 7 = nI n ∧ C.1 12 = nI n ∧ gN C = n ∧ n ≤ 80).2.2.2
  have := (nIeq (a := a) (b := x) (by omega) (by omega)).mp (j4.symm.trans x2)
  subst this
  exact ⟨x1, x3, j, j1, j2, x4⟩
theorem SX_c {C : CS} {M : MS} {n t u d e kp fa E a : Nat} (h : ∀ i, RI C M n t u d e kp fa i) (hE : kp ≤ E) (ha : a < 80) (hL : SX M E e a) : a < n ∧ M.2.1 11 a = 4 ∧ M.2.1 21 a = 0 ∧ ∃ j, E ≤ j ∧ j < e ∧ gP C a 18 = nI j := by
  obtain ⟨j, j1, j2, j3, j4⟩ := hL
  obtain ⟨x, x1, x2, x3, x4, x5⟩ := h 20 j (by omega) j2 j3
  have n80 : n ≤ 80 := (h 0 : M.1 7 = nI n ∧ C.1 12 = nI n ∧ gN C = n ∧ n ≤ 80).2.2.2
  have := (nIeq (a := a) (b := x) (by omega) (by omega)).mp (j4.symm.trans x2)
  subst this
  exact ⟨x1, x3, x5, j, j1, j2, x4⟩
theorem m_fall {C : CS} {M : MS} {n t u d e kp fa x d' : Nat} (h : ∀ i, RI C M n t u d e kp fa i) (hx : kp + x ≤ e) (hcp : cp (fun j => kp + x ≤ j ∧ M.2.1 33 (4 * j) = 2) e = d - d') (hd' : d' ≤ d) : ∃ M', f_X4_fall (nI x) M = some (nI (d - d'), M') ∧ (M'.1 7 = nI n ∧ M'.1 0 = nI t ∧ M'.1 29 = nI d' ∧ M'.1 31 = nI (kp + x) ∧ M'.1 32 = nI (kp + x) ∧ M'.1 34 = M.1 34 ∧ M'.1 35 = nI (fa + 1)) ∧ M'.2.2 = M.2.2 ∧ (∀ k, (3 ≤ k ∧ k ≤ 6) ∨ (8 ≤ k ∧ k ≤ 10) ∨ k = 19 ∨ k = 20 ∨ k = 24 ∨ k = 30 ∨ k = 33 → M'.2.1 k = M.2.1 k) ∧ (∀ c, c < 24 → M'.2.1 1 c = vCell M' c d') ∧ (∀ c, c < 8 → M'.2.1 2 c = vCnt M' c d') ∧ (∀ a, a < n → ((M.2.1 21 a = 1 ∨ VX M (kp + x) e a) → M'.2.1 11 a = 4 ∧ M'.2.1 17 a = -1 ∧ M'.2.1 21 a = 1 ∧ M'.2.1 18 a = M.2.1 18 a) ∧ (¬ (M.2.1 21 a = 1 ∨ VX M (kp + x) e a) → M'.2.1 21 a = 0 ∧ ((M.2.1 11 a = 1 ∨ LX M (kp + x) e a) → M'.2.1 11 a = 0 ∧ M'.2.1 18 a = M.2.1 18 a + 1) ∧ (¬ (M.2.1 11 a = 1 ∨ LX M (kp + x) e a) → M'.2.1 18 a = M.2.1 18 a ∧ (SX M (kp + x) e a → M'.2.1 11 a = 0) ∧ (¬ SX M (kp + x) e a → M'.2.1 11 a = if M.2.1 11 a = 2 then 3 else M.2.1 11 a)) ∧ ((LX M (kp + x) e a ∨ SX M (kp + x) e a) → M'.2.1 17 a = -1) ∧ (¬ (LX M (kp + x) e a ∨ SX M (kp + x) e a) → M'.2.1 17 a = M.2.1 17 a))) ∧ (∀ a, n ≤ a → a < 80 → M'.2.1 11 a = M.2.1 11 a ∧ M'.2.1 18 a = M.2.1 18 a ∧ M'.2.1 21 a = M.2.1 21 a ∧ M'.2.1 16 a = M.2.1 16 a) ∧ ∀ a, ¬ ZF M n (kp + x) e a → (∀ c, c < 24 → M'.2.1 23 (24 * a + c) = M.2.1 23 (24 * a + c)) ∧ ∀ c, c < 8 → M'.2.1 25 (8 * a + c) = M.2.1 25 (8 * a + c) := by
  obtain ⟨b1, b2, b3, b4⟩ : M.1 7 = nI n ∧ C.1 12 = nI n ∧ gN C = n ∧ n ≤ 80 := h 0
  obtain ⟨t1, t2, t3⟩ : M.1 0 = nI t ∧ C.1 15 = nI t ∧ t ≤ 5000 := h 1
  obtain ⟨d1, d2, d3⟩ : M.1 29 = nI d ∧ C.1 13 = nI d ∧ d ≤ n := h 2
  obtain ⟨z1, z2, z3, z4, z5, z6⟩ : M.1 31 = nI e ∧ C.1 21 = nI e ∧ 4 * e ≤ M.2.2 ∧ lnOK M.2.2 ∧ e ≤ gE C ∧ isE (gE C) := h 3
  obtain ⟨k1, k2, k3⟩ : M.1 32 = nI kp ∧ C.1 22 = nI kp ∧ kp ≤ e := h 4
  obtain ⟨f1, f2, f3, f4⟩ : C.1 16 = M.1 34 ∧ C.1 17 = nI fa ∧ M.1 35 = nI fa ∧ fa ≤ 512 := h 5
  have hl : M.2.2 ≤ 2048000 := by unfold lnOK at z4; omega
  generalize hEE : kp + x = E at *
  have kE : kp ≤ E := by omega
  unfold f_X4_fall
  rw [if_neg (show ¬ nI x < 0 from fun z => by have := (nIlt (a := x) (b := 0) (by omega) (by omega)).mp z; omega), z1, k1, nI_sub2 k3, if_pos (np_ (show x ≤ e - kp by omega) (by omega) (by omega)), nI_add, hEE]
  have hv : ∀ a, a < n → M.2.1 21 a = 0 ∨ M.2.1 21 a = 1 := fun a ha => by
    rcases h 12 a ha 10 with q | q
    · exact Or.inl q
    · exact Or.inr q.1
  have z22 : ∀ i, (∀ a, a < 0 → M.2.1 22 a = i) := fun i a ha => by omega
  -- the first phase
  obtain ⟨M1, p1, q1⟩ := m_fall_31 (Z := ZF M n E e) (M0 := M) (v2 := nI E) (v3 := 0) b4 b1 (fun a ha hs => ⟨ha, Or.inl hs⟩) 3000000 0 M (by omega) (by omega) ⟨TF_rf _ M, rfl, fun _ _ => rfl, fun a => ⟨fun q => by omega, fun _ => rfl⟩, fun a ha => by omega⟩
  rw [show f_X4_fall_31 3000000 (nI E) 0 0 M = _ from p1]
  obtain ⟨q11, q12, q13, q14, q15⟩ := q1
  have lx0 : ∀ a, ¬ LX M E E a := fun a ⟨j, h1, h2, _⟩ => by omega
  have sx0 : ∀ a, ¬ SX M E E a := fun a ⟨j, h1, h2, _⟩ => by omega
  have vx0 : ∀ a, ¬ VX M E E a := fun a ⟨p, _, h2, _⟩ => lx0 p h2
  have cp0 : ∀ m, m ≤ E → cp (fun j => E ≤ j ∧ M.2.1 33 (4 * j) = 2) m = 0 := fun m => by
    induction m with
    | zero => intro _; rfl
    | succ m ih => intro hm; rw [cp_n (fun q => by have := q.1; omega)]; exact ih (by omega)
  have hF2 : F2 (ZF M n E e) M M1 n d E E := by
    refine ⟨q11, ?_, q13 18 (by omega), fun a ha => ?_, fun a ha => ?_, fun a ha => ?_, fun a ha => ?_, fun a ha => by rw [q13 21 (by omega)]⟩
    · rw [q12, cp0 E (Nat.le_refl _), Nat.sub_zero, ← d1]
      funext z; rw [upd_get]; split
      · rename_i e0; rw [e0]
      · rfl
    · refine ⟨fun q => (q14 a).1 ?_, fun q => (q14 a).2 (fun y => q (Or.inl y.2))⟩
      rcases q with q | q | q
      · refine ⟨Classical.byContradiction (fun y => ?_), q⟩
        have := (h 25 a (by omega) ha).1
        rw [this] at q; exact absurd q (by decide)
      · exact absurd q (lx0 a)
      · exact absurd q (sx0 a)
    · rw [q13 17 (by omega)]
      exact ⟨fun q => by rcases q with q | q; exact absurd q (lx0 a); exact absurd q (sx0 a), fun _ => rfl⟩
    · refine ⟨(q15 a ha).1, (q15 a ha).2.trans ⟨Or.inl, fun y => ?_⟩⟩
      rcases y with y | y
      · exact y
      · exact absurd y (lx0 a)
    · rw [q13 21 (by omega)]
      refine ⟨hv a ha, Or.inl, fun y => ?_⟩
      rcases y with y | y
      · exact y
      · exact absurd y (vx0 a)
  obtain ⟨M2, p2, q2⟩ := m_fall_93 (Z := ZF M n E e) (M0 := M) b4 b1 z1 (by omega) z3 hl (fun i hi => by
    obtain ⟨k, a, s, g1, g2, g3, g4, g5, g6⟩ := h 17 i hi
    exact ⟨a, g2, g5⟩) (fun i y h1 h2 h3 h4 h5 => by
    rcases h3 with h3 | h3
    · have hL : LX M E e y := ⟨i, h1, h2, h3, h4⟩
      exact ⟨(LX_c h kE h5 hL).1, Or.inr (Or.inl hL)⟩
    · have hS : SX M E e y := ⟨i, h1, h2, h3, h4⟩
      exact ⟨(SX_c h kE h5 hS).1, Or.inr (Or.inr (Or.inl hS))⟩) hv (by omega) 3000000 E M1 (by omega) hx (Nat.le_refl _) hF2
  rw [cp0 E (Nat.le_refl _)] at p2
  rw [show f_X4_fall_93 3000000 (nI E) 0 (nI E) M1 = _ from p2, hcp]
  obtain ⟨r1, r2, r3, r4, r5, r6, r7, r8⟩ := q2
  rw [hcp, show d - (d - d') = d' by omega] at r2
  -- the third
  obtain ⟨M3, p3, q3⟩ := m_fall_291 (Z := ZF M n E e) (M2 := mI M2 31 (nI E)) (n := n) (v3 := nI (d - d')) b4 (by show upd M2.1 31 (nI E) 7 = _; rw [r2]; exact b1) (fun a ha => (r6 a ha).1) (fun a ha => (r7 a ha).1) (fun a ha y => ⟨ha, by
    rcases (r7 a ha).2.mp y with w | w
    · exact Or.inr (Or.inr (Or.inr (Or.inl w)))
    · exact Or.inr (Or.inr (Or.inr (Or.inr w)))⟩) 3000000 0 (mI M2 31 (nI E)) (by omega) (by omega) ⟨TF_rf _ _, rfl, fun _ _ => rfl, fun a ha => by omega, fun _ _ => ⟨rfl, rfl, rfl⟩⟩
  rw [show f_X4_fall_291 3000000 (nI (d - d')) 0 (mI M2 31 (nI E)) = _ from p3]
  obtain ⟨u1, u2, u3, u4, u5⟩ := q3
  have T3 : TF (ZF M n E e) M M3 := TF_tr r1 u1
  have n3 : M3.1 = upd (upd M.1 29 (nI d')) 31 (nI E) := by rw [u2]; show upd M2.1 31 (nI E) = _; rw [r2]
  -- the fourth
  rw [show f_X4_fall_379 3000000 (nI (d - d')) 0 M3 = _ from m_fall_379 3000000 0 M3 (by omega) (by omega)]
  rw [show ∀ X : MS, f_X4_fall_403 3000000 (nI (d - d')) 0 X = _ from fun X => m_fall_403 3000000 0 X (by omega) (by omega)]
  obtain ⟨F, G, p4, p5, p6⟩ := m_fall_427 (v3 := nI (d - d')) (M := M3) (n := n) (d := d') b4 (by rw [n3]; exact b1) (by rw [n3]; rfl) (by omega) (fun i hi => by
    obtain ⟨-, b, g1, g2, -⟩ := h 14 i (by omega)
    exact ⟨b, by omega, by rw [T3.1 30 (by omega)]; exact g2⟩) 3000000 0 (rwm (M3.2.1 1) 0 (24 - 0) (fun _ => 0)) (rwm (M3.2.1 2) 0 (8 - 0) (fun _ => 0)) (by omega) (by omega) (fun c hc => by simp only [rwm, vCell]; rw [if_pos (show 0 ≤ c ∧ c < 0 + (24 - 0) by omega)]) (fun c hc => by simp only [rwm, vCnt]; rw [if_pos (show 0 ≤ c ∧ c < 0 + (8 - 0) by omega)])
  have p4' : f_X4_fall_427 3000000 (nI (d - d')) 0 (mR (mR M3 1 (rwm (M3.2.1 1) 0 (24 - 0) (fun _ => 0))) 2 (rwm ((mR M3 1 (rwm (M3.2.1 1) 0 (24 - 0) (fun _ => 0))).2.1 2) 0 (8 - 0) (fun _ => 0))) = _ := p4
  rw [p4']
  generalize hM4 : mR (mR M3 1 F) 2 G = M4
  have m4 : ∀ k, k ≠ 1 → k ≠ 2 → M4.2.1 k = M3.2.1 k := fun k h1 h2 => by rw [← hM4, mR_get, if_neg h2, mR_get, if_neg h1]
  have n4 : M4.1 = M3.1 := by rw [← hM4]; rfl
  generalize hM5 : mI (mKeep n M4) 35 (M3.1 35 + 1) = M5
  have m5 : ∀ k, k ≠ 11 → M5.2.1 k = M4.2.1 k := fun k hk => by
    rw [← hM5]; show (mR (mI M4 32 (M4.1 31)) 11 _).2.1 k = _; rw [mR_get, if_neg hk]; rfl
  have m11 : ∀ a, M5.2.1 11 a = if a < n then (if M3.2.1 11 a = 2 then 3 else M3.2.1 11 a) else M3.2.1 11 a := fun a => by
    have ee : M5.2.1 11 = rwm (M4.2.1 11) 0 n (fun i => if M4.2.1 11 i = 2 then 3 else M4.2.1 11 i) := by rw [← hM5]; rfl
    rw [ee, m4 11 (by omega) (by omega)]; simp only [rwm]
    by_cases z : a < n
    · rw [if_pos (show 0 ≤ a ∧ a < 0 + n by omega), if_pos z]
    · rw [if_neg (show ¬ (0 ≤ a ∧ a < 0 + n) by omega), if_neg z]
  have n5 : M5.1 = upd (upd M4.1 32 (M4.1 31)) 35 (M3.1 35 + 1) := by rw [← hM5]; rfl
  have mm : ∀ k, k ≠ 11 → k ≠ 1 → k ≠ 2 → M5.2.1 k = M3.2.1 k := fun k h1 h2 h3 => by rw [m5 k h1, m4 k h2 h3]
  have e35 : M3.1 35 + 1 = nI (fa + 1) := by rw [n3]; show M.1 35 + 1 = _; rw [f3, n1, nI_add]
  have tf5 : ∀ a, ¬ ZF M n E e a → (∀ c, c < 24 → M5.2.1 23 (24 * a + c) = M.2.1 23 (24 * a + c)) ∧ (∀ c, c < 8 → M5.2.1 25 (8 * a + c) = M.2.1 25 (8 * a + c)) ∧ M5.2.1 16 a = M.2.1 16 a := fun a ha => by
    rw [mm 23 (by omega) (by omega) (by omega), mm 25 (by omega) (by omega) (by omega), mm 16 (by omega) (by omega) (by omega)]; exact T3.2.2 a ha
  refine ⟨M5, rfl, ⟨?_, ?_, ?_, ?_, ?_, ?_, ?_⟩, ?_, fun k hk => ?_, fun c hc => ?_, fun c hc => ?_, fun a ha => ⟨fun vd => ?_, fun vd => ?_⟩, fun a h1 h2 => ?_, fun a ha => ⟨(tf5 a ha).1, (tf5 a ha).2.1⟩⟩
  · rw [n5, n4, n3]; exact b1
  · rw [n5, n4, n3]; exact t1
  · rw [n5, n4, n3]; rfl
  · rw [n5, n4, n3]; rfl
  · rw [n5, n4, n3]; rfl
  · rw [n5, n4, n3]; rfl
  · rw [n5, n4, e35]; rfl
  · rw [← hM5, ← hM4]; exact T3.2.1
  · rw [mm k (by omega) (by omega) (by omega)]; exact T3.1 k (by omega)
  · rw [m5 1 (by omega), ← hM4]
    show F c = _
    rw [p5 c hc, vCell_c (M := M3) (mm 23 (by omega) (by omega) (by omega)) (mm 24 (by omega) (by omega) (by omega)) (mm 30 (by omega) (by omega) (by omega))]
  · rw [m5 2 (by omega), ← hM4]
    show G c = _
    rw [p6 c hc, vCnt_c (M := M3) (mm 25 (by omega) (by omega) (by omega)) (mm 30 (by omega) (by omega) (by omega))]
  · have v1 : M2.2.1 21 a = 1 := (r7 a ha).2.mpr vd
    obtain ⟨w1, w2, w3, w4⟩ := u4 a ha
    obtain ⟨y1, y2⟩ := w3 v1
    rw [m11, if_pos ha, y1, if_neg (by decide), mm 17 (by omega) (by omega) (by omega), mm 21 (by omega) (by omega) (by omega), mm 18 (by omega) (by omega) (by omega), u3 21 (by omega)]
    refine ⟨rfl, y2, v1, ?_⟩
    rw [w2 (fun z => by have : M2.2.1 21 a = 0 := z.2; rw [v1] at this; exact absurd this (by decide))]
    show M2.2.1 18 a = _; rw [r3]
  · have v0 : M2.2.1 21 a = 0 := (r7 a ha).1.resolve_right (fun y => vd ((r7 a ha).2.mp y))
    obtain ⟨w1, w2, w3, w4⟩ := u4 a ha
    obtain ⟨y1, y2⟩ := w4 (show ¬ M2.2.1 21 a = 1 by rw [v0]; decide)
    have y1 : M3.2.1 11 a = M2.2.1 11 a := y1
    have y2 : M3.2.1 17 a = M2.2.1 17 a := y2
    have a80 : a < 80 := by omega
    rw [m11, if_pos ha, y1, mm 17 (by omega) (by omega) (by omega), mm 21 (by omega) (by omega) (by omega), mm 18 (by omega) (by omega) (by omega), u3 21 (by omega), y2]
    refine ⟨v0, fun q => ?_, fun q => ⟨?_, fun s => ?_, fun s => ?_⟩, (r5 a a80).1, (r5 a a80).2⟩
    · rw [(r4 a a80).1 (by rcases q with q | q; exact Or.inl q; exact Or.inr (Or.inl q)), if_neg (by decide)]
      refine ⟨rfl, ?_⟩
      rw [w1 ⟨(r6 a ha).2.mpr q, v0⟩]
      show M2.2.1 18 a + 1 = _; rw [r3]
    · rw [w2 (fun z => q ((r6 a ha).2.mp z.1))]
      show M2.2.1 18 a = _; rw [r3]
    · rw [(r4 a a80).1 (Or.inr (Or.inr s)), if_neg (by decide)]
    · rw [(r4 a a80).2 (fun z => by rcases z with z | z | z; exact q (Or.inl z); exact q (Or.inr z); exact s z)]
  · have nz : ¬ ZF M n E e a := fun z => by have := z.1; omega
    have s0 : M.2.1 11 a = 0 := (h 25 a h1 h2).1
    have nL : ¬ LX M E e a := fun z => by have := (LX_c h kE h2 z).1; omega
    have nS : ¬ SX M E e a := fun z => by have := (SX_c h kE h2 z).1; omega
    obtain ⟨y1, y2, y3⟩ := u5 a h1
    rw [m11, if_neg (by omega), mm 18 (by omega) (by omega) (by omega), mm 21 (by omega) (by omega) (by omega), y1, y3, u3 21 (by omega)]
    refine ⟨?_, ?_, r8 a h1, (tf5 a nz).2.2⟩
    · show M2.2.1 11 a = _
      rw [(r4 a h2).2 (fun z => by
        rcases z with z | z | z
        · rw [s0] at z; exact absurd z (by decide)
        · exact nL z
        · exact nS z)]
    · show M2.2.1 18 a = _; rw [r3]
