/-! ===== what is done is kept; a tick; go ===== -/
theorem c_ans_9 {C : CS} {d n : Nat} {r : Nat → Nat} (hn : n ≤ 80) (hd : d ≤ n) (h13 : C.1 13 = nI d) (hN : gN C = n) (hr : ∀ i, i < d → C.2.1 7 i = nI (r i) ∧ r i < n) (k i : Nat) (Ci : CS) (hk : d < k + i) (hi : i ≤ d) (hS : cSame C Ci) (hQ : gQ Ci = gQ C) (hP : ∀ x j, j ≠ 12 → gP Ci x j = gP C x j) (h1 : ∀ x, (∃ q, q < i ∧ r q = x) → gP Ci x 12 = 3) (h2 : ∀ x, (¬ ∃ q, q < i ∧ r q = x) → gP Ci x 12 = gP C x 12) : ∃ C' : CS, f_X3_answerDone_9 k (nI i) Ci = some (0, C') ∧ cSame C C' ∧ gQ C' = gQ C ∧ (∀ x j, j ≠ 12 → gP C' x j = gP C x j) ∧ (∀ x, (∃ q, q < d ∧ r q = x) → gP C' x 12 = 3) ∧ ∀ x, (¬ ∃ q, q < d ∧ r q = x) → gP C' x 12 = gP C x 12 := by
  induction k generalizing i Ci with
  | zero => omega
  | succ k ih =>
    rw [f_X3_answerDone_9, hS.1, h13]
    by_cases h0 : d ≤ i
    · rw [if_pos (np_ h0 (by omega) (by omega))]
      have : i = d := by omega
      subst this
      exact ⟨Ci, rfl, hS, hQ, hP, h1, h2⟩
    · obtain ⟨q1, q2⟩ := hr i (by omega)
      rw [if_neg (nn h0 (by omega) (by omega)), if_pos (ck i 80 (by omega)), nc i (by omega), hS.2.1, q1, nc (r i) (by omega), if_pos ⟨ck (r i) 80 (by omega), by rw [hS.2.2.2.2]; omega⟩, k_ls, n1, nI_add]
      refine ih (i + 1) _ (by omega) (by omega) (cSame_tr hS (cSame_P _ _ _ _)) hQ (fun x j hj => by rw [cP_P, if_neg (fun z => hj z.2)]; exact hP x j hj) (fun x hx => ?_) (fun x hx => ?_)
      · rw [cP_P]
        by_cases z : x = r i
        · rw [if_pos ⟨z, rfl⟩]
        · rw [if_neg (fun y => z y.1)]
          obtain ⟨q, w1, w2⟩ := hx
          exact h1 x ⟨q, by
            by_cases y : q = i
            · subst y; exact absurd w2.symm z
            · omega, w2⟩
      · rw [cP_P, if_neg (fun y => hx ⟨i, by omega, y.1.symm⟩)]
        exact h2 x (fun ⟨q, w1, w2⟩ => hx ⟨q, by omega, w2⟩)
theorem keep_RI {C C' : CS} {M : MS} {n t u d e kp fa : Nat} (h : ∀ i, RI C M n t u d e kp fa i) (hC1 : C'.1 = upd C.1 22 (nI e)) (hCr : C'.2.1 = C.2.1) (hE : gE C' = gE C) (hN : gN C' = gN C) (hQ : gQ C' = gQ C) (hP : ∀ x j, j ≠ 12 → gP C' x j = gP C x j) (h12 : ∀ x, x < n → gP C' x 12 = (mKeep n M).2.1 11 x) : ∀ i, RI C' (mKeep n M) n t u d e e fa i := by
  obtain ⟨b1, b2, b3, b4⟩ : M.1 7 = nI n ∧ C.1 12 = nI n ∧ gN C = n ∧ n ≤ 80 := h 0
  obtain ⟨z1, z2, z3, z4, z5, z6⟩ : M.1 31 = nI e ∧ C.1 21 = nI e ∧ 4 * e ≤ M.2.2 ∧ lnOK M.2.2 ∧ e ≤ gE C ∧ isE (gE C) := h 3
  have m11 : ∀ x, (mKeep n M).2.1 11 x = if x < n then (if M.2.1 11 x = 2 then 3 else M.2.1 11 x) else M.2.1 11 x := fun x => by
    have e : (mKeep n M).2.1 11 = rwm (M.2.1 11) 0 n (fun i => if M.2.1 11 i = 2 then 3 else M.2.1 11 i) := rfl
    rw [e]; simp only [rwm]
    by_cases z : x < n
    · rw [if_pos (show 0 ≤ x ∧ x < 0 + n by omega), if_pos z]
    · rw [if_neg (show ¬ (0 ≤ x ∧ x < 0 + n) by omega), if_neg z]
  have mo : ∀ k, k ≠ 11 → (mKeep n M).2.1 k = M.2.1 k := fun k hk => by
    show (mR (mI M 32 (M.1 31)) 11 _).2.1 k = _; rw [mR_get, if_neg hk]; rfl
  have m1 : (mKeep n M).1 = upd M.1 32 (nI e) := by rw [← z1]; rfl
  have s0 : ∀ x (v : Int32), v ≠ 2 → v ≠ 3 → ((mKeep n M).2.1 11 x = v ↔ M.2.1 11 x = v) := fun x v h2 h3 => by
    rw [m11]
    by_cases z : x < n
    · rw [if_pos z]
      by_cases y : M.2.1 11 x = 2
      · rw [if_pos y, y]; exact ⟨fun q => absurd q.symm h3, fun q => absurd q.symm h2⟩
      · rw [if_neg y]
    · rw [if_neg z]
  have s23 : ∀ x, ((mKeep n M).2.1 11 x = 2 ∨ (mKeep n M).2.1 11 x = 3) ↔ (M.2.1 11 x = 2 ∨ M.2.1 11 x = 3) := fun x => by
    rw [m11]
    by_cases z : x < n
    · rw [if_pos z]
      by_cases y : M.2.1 11 x = 2
      · rw [if_pos y]; exact ⟨fun _ => Or.inl y, fun _ => Or.inr rfl⟩
      · rw [if_neg y]
    · rw [if_neg z]
  have no2 : ∀ x, x < n → (mKeep n M).2.1 11 x ≠ 2 := fun x hx => by
    rw [m11, if_pos hx]
    by_cases y : M.2.1 11 x = 2
    · rw [if_pos y]; decide
    · rw [if_neg y]; exact y
  have dn : ∀ i a, i < d → M.2.1 30 i = nI a → a < 80 → a < n := fun i a hi ha h80 => by
    obtain ⟨-, b, hb, hb2, -⟩ := h 14 i hi
    have := (nIeq (a := a) (b := b) (by omega) (by omega)).mp (ha.symm.trans hb2)
    omega
  intro i
  match i with
  | 0 => exact ⟨by rw [m1]; exact b1, by rw [hC1]; exact b2, by rw [hN]; exact b3, b4⟩
  | 1 =>
    obtain ⟨t1, t2, t3⟩ : M.1 0 = nI t ∧ C.1 15 = nI t ∧ t ≤ 5000 := h 1
    exact ⟨by rw [m1]; exact t1, by rw [hC1]; exact t2, t3⟩
  | 2 =>
    obtain ⟨t1, t2, t3⟩ : M.1 29 = nI d ∧ C.1 13 = nI d ∧ d ≤ n := h 2
    exact ⟨by rw [m1]; exact t1, by rw [hC1]; exact t2, t3⟩
  | 3 => exact ⟨by rw [m1]; exact z1, by rw [hC1]; exact z2, z3, z4, by rw [hE]; exact z5, by rw [hE]; exact z6⟩
  | 4 => exact ⟨by rw [m1]; rfl, by rw [hC1]; rfl, Nat.le_refl _⟩
  | 5 => simp only [RI, m1, hC1]; exact h 5
  | 6 => simp only [RI, hCr, mo 5 (by omega)]; exact h 6
  | 7 => simp only [RI, hCr, mo 6 (by omega)]; exact h 7
  | 8 => simp only [RI, hCr, mo 4 (by omega)]; exact h 8
  | 9 => simp only [RI, hCr, mo 3 (by omega)]; exact h 9
  | 10 => simp only [RI, hCr, mo 1 (by omega), vCell_c (mo 23 (by omega)) (mo 24 (by omega)) (mo 30 (by omega))]; exact h 10
  | 11 => simp only [RI, hCr, mo 2 (by omega), vCnt_c (mo 25 (by omega)) (mo 30 (by omega))]; exact h 11
  | 12 =>
    intro a ha i
    have hA := h 12 a ha
    match i with
    | 0 => simp only [RA, hP a 0 (by omega), mo 8 (by omega)]; exact hA 0
    | 1 => simp only [RA, hP a 1 (by omega), mo 9 (by omega)]; exact hA 1
    | 2 => simp only [RA, hP a 2 (by omega), mo 10 (by omega)]; exact hA 2
    | 3 => simp only [RA, hP a 3 (by omega), mo 19 (by omega)]; exact hA 3
    | 4 =>
      refine ⟨h12 a ha, ?_⟩
      obtain ⟨-, s, q1, q2⟩ := hA 4
      rw [m11, if_pos ha]
      by_cases y : M.2.1 11 a = 2
      · rw [if_pos y]; exact ⟨3, by omega, rfl⟩
      · rw [if_neg y]; exact ⟨s, q1, q2⟩
    | 5 => simp only [RA, hP a 16 (by omega), hP a 17 (by omega), hP a 19 (by omega), mo 20 (by omega), mo 17 (by omega), mo 18 (by omega)]; exact hA 5
    | 6 =>
      intro q
      have bg := hA 6 ((s0 a 1 (by decide) (by decide)).mp q)
      simp only [BEG, hP a 10 (by omega), hP a 11 (by omega), hP a 13 (by omega), hP a 14 (by omega), hQ, mo 12 (by omega), mo 13 (by omega), mo 14 (by omega), mo 15 (by omega), mo 23 (by omega), mo 24 (by omega), mo 25 (by omega), mo 26 (by omega), mo 27 (by omega), mo 28 (by omega)]
      exact bg
    | 7 =>
      intro q
      have bg := hA 7 ((s23 a).mp q)
      simp only [DON, hQ, mo 17 (by omega), mo 23 (by omega), mo 24 (by omega), mo 25 (by omega)]
      exact bg
    | 8 =>
      intro q
      have bg := hA 8 ((s0 a 0 (by decide) (by decide)).mp q)
      rw [hQ, hP a 11 (by omega)]; exact bg
    | 9 => simp only [RA, hP a 15 (by omega)]; exact hA 9
    | 10 =>
      simp only [RA, mo 21 (by omega), hP a 18 (by omega), s0 a 4 (by decide) (by decide)]; exact hA 10
    | 11 =>
      intro p hp hpe
      rw [mo 19 (by omega)] at hpe
      rw [mo 21 (by omega), s23 p]; exact hA 11 p hp hpe
    | 12 =>
      show _ ∨ _
      rw [← or_assoc, s23 a, mo 17 (by omega), or_assoc]; exact hA 12
    | k + 13 => trivial
  | 13 => simp only [RI, hCr, ahd_c (mo 10 (by omega))]; exact h 13
  | 14 => simp only [RI, hCr, mo 30 (by omega), s23]; exact h 14
  | 15 => simp only [RI, mo 30 (by omega)]; exact h 15
  | 16 => simp only [RI, mo 30 (by omega), s23]; exact h 16
  | 17 => simp only [RI, mo 33 (by omega), hCr]; exact h 17
  | 18 => exact fun a ha q => absurd q (no2 a ha)
  | 19 => exact fun i h1 h2 => by omega
  | 20 => exact fun i h1 h2 => by omega
  | 21 =>
    intro a ha q
    rw [s0 a 4 (by decide) (by decide)] at q
    rw [hP a 18 (by omega)]
    rcases h 21 a ha q with g | ⟨i, g1, g2, -⟩
    · exact Or.inl g
    · exact Or.inr ⟨i, g1, g2, fun g3 => by omega⟩
  | 22 =>
    intro i j a b x y hij hj hi ha8 hjj hb8 hs
    rw [mo 30 (by omega)] at hi
    exact absurd hs (no2 a (dn i a (by omega) hi ha8))
  | 23 => simp only [RI, mo 30 (by omega), mo 19 (by omega)]; exact h 23
  | 24 => exact fun k hk => Nat.le_trans (cntK_le (fun x q => (s0 x 1 (by decide) (by decide)).mp q) (mo 9 (by omega)) n) (h 24 k hk)
  | 25 =>
    intro a h1 h2
    rw [m11, if_neg (by omega), mo 18 (by omega), mo 21 (by omega), mo 16 (by omega)]; exact h 25 a h1 h2
  | k + 26 => trivial
theorem keep_same {C : CS} {M : MS} {n t u d e kp fa : Nat} (h : ∀ i, RI C M n t u d e kp fa i) : ∃ C' M', f_X3_answerDone C = some (0, C') ∧ f_X4_keeps M = some (0, M') ∧ ∀ i, RI C' M' n t u d e e fa i := by
  obtain ⟨b1, b2, b3, b4⟩ : M.1 7 = nI n ∧ C.1 12 = nI n ∧ gN C = n ∧ n ≤ 80 := h 0
  obtain ⟨d1, d2, d3⟩ : M.1 29 = nI d ∧ C.1 13 = nI d ∧ d ≤ n := h 2
  obtain ⟨z1, z2, z3, z4, z5, z6⟩ : M.1 31 = nI e ∧ C.1 21 = nI e ∧ 4 * e ≤ M.2.2 ∧ lnOK M.2.2 ∧ e ≤ gE C ∧ isE (gE C) := h 3
  unfold f_X3_answerDone f_X1_keepAll
  rw [k_ls, k_bs, z2, m_keeps b4 M b1]
  have hr : ∀ i, i < d → (cN C 22 (nI e)).2.1 7 i = nI ((M.2.1 30 i).toNatClampNeg) ∧ (M.2.1 30 i).toNatClampNeg < n := fun i hi => by
    obtain ⟨g1, b, g2, g3, -⟩ := h 14 i hi
    rw [g3, nc b (by omega)]; exact ⟨by show C.2.1 7 i = _; rw [g1, g3], g2⟩
  obtain ⟨C', w1, w2, w3, w4, w5, w6⟩ := c_ans_9 (C := cN C 22 (nI e)) (d := d) (n := n) (r := fun i => (M.2.1 30 i).toNatClampNeg) b4 d3 d2 b3 hr 200 0 (cN C 22 (nI e)) (by omega) (by omega) (cSame_rf _) rfl (fun _ _ _ => rfl) (fun x ⟨q, hq, _⟩ => by omega) (fun _ _ => rfl)
  refine ⟨C', mKeep n M, w1, rfl, keep_RI h w2.1 w2.2.1 w2.2.2.2.1 w2.2.2.2.2 w3 w4 (fun x hx => ?_)⟩
  have e11 : (mKeep n M).2.1 11 x = if M.2.1 11 x = 2 then 3 else M.2.1 11 x := by
    have e : (mKeep n M).2.1 11 = rwm (M.2.1 11) 0 n (fun i => if M.2.1 11 i = 2 then 3 else M.2.1 11 i) := rfl
    rw [e]; simp only [rwm]; rw [if_pos (show 0 ≤ x ∧ x < 0 + n by omega)]
  rw [e11]
  by_cases z : M.2.1 11 x = 2 ∨ M.2.1 11 x = 3
  · obtain ⟨q, q1, q2⟩ := h 16 x hx z
    rw [w5 x ⟨q, q1, by show (M.2.1 30 q).toNatClampNeg = x; rw [q2, nc x (by omega)]⟩]
    rcases z with z | z
    · rw [if_pos z]
    · rw [if_neg (by rw [z]; decide), z]
  · rw [w6 x (fun ⟨q, q1, q2⟩ => z (by
      obtain ⟨-, b, g2, g3, g4⟩ := h 14 q q1
      have q2 : (M.2.1 30 q).toNatClampNeg = x := q2
      rw [g3, nc b (by omega)] at q2
      subst q2; exact g4)), if_neg (fun y => z (Or.inl y))]
    exact (h 12 x hx 4).1
theorem RI_now {C : CS} {M : MS} {n t d e kp fa : Nat} (ht : t < 5000) (h : ∀ i, RI C M n t (t + 1) d e kp fa i) : ∀ i, RI (cN C 15 (nI (t + 1))) (mI M 0 (nI (t + 1))) n (t + 1) (t + 1) d e kp fa i := by
  intro i
  match i with
  | 0 => exact h 0
  | 1 => exact ⟨rfl, rfl, by omega⟩
  | 2 => exact h 2
  | 3 => exact h 3
  | 4 => exact h 4
  | 5 => exact h 5
  | 6 => exact h 6
  | 7 => exact h 7
  | 8 => exact h 8
  | 9 => exact h 9
  | 10 => exact fun c hc => ⟨(h 10 c hc).1, (h 10 c hc).2.trans (vCell_c (M := M) (M' := mI M 0 (nI (t + 1))) rfl rfl rfl d).symm⟩
  | 11 => exact fun c hc => ⟨(h 11 c hc).1, (h 11 c hc).2.trans (vCnt_c (M := M) (M' := mI M 0 (nI (t + 1))) rfl rfl d).symm⟩
  | 12 => exact fun a ha i => RA_tr (C := C) (M := M) rfl rfl (fun _ _ _ => rfl) i (h 12 a ha i)
  | 13 => exact h 13
  | 14 => exact h 14
  | 15 => exact h 15
  | 16 => exact h 16
  | 17 => exact h 17
  | 18 => exact h 18
  | 19 => exact h 19
  | 20 => exact h 20
  | 21 => exact h 21
  | 22 => exact h 22
  | 23 => exact h 23
  | 24 => exact fun k hk => by rw [cntK_c (M := M) (M' := mI M 0 (nI (t + 1))) rfl rfl n]; exact h 24 k hk
  | 25 => exact h 25
  | k + 26 => trivial
/-- a tick -/
theorem tick_same {K : Int32 → Int32 → MS → Option (Int32 × MS)} {v1 : Int32} {i : Nat} {C : CS} {M : MS} {n t d e kp fa : Nat} (ht : t < 5000) (h : ∀ i, RI C M n t t d e kp fa i) (he : e ≤ 72 * t + d + 80 * fa) : ∃ C' M' n' d' e' kp', f_X3_passTick C = some (0, C') ∧ (k_bind (f_X4_sorts (1 : Int32) M) fun r5 M5 => f_X4_go_39 K 300 v1 (nI i) r5 (0 : Int32) M5) = K v1 (nI (i + 1)) M' ∧ (∀ i, RI C' M' n' (t + 1) (t + 1) d' e' kp' fa i) ∧ e' ≤ 72 * (t + 1) + d' + 80 * fa := by
  obtain ⟨C1, M1, n1', d1', e1', m, g, s1, s2, s3⟩ := steps_same (K := K) (v1 := v1) (v2 := nI i) h he
  obtain ⟨C2, M2, e2, r1, r2, r3, r4⟩ := rings_same s3
  obtain ⟨dd1, dd2, dd3⟩ : M2.1 29 = nI d1' ∧ C2.1 13 = nI d1' ∧ d1' ≤ n1' := r3 2
  have nn80 : n1' ≤ 80 := (r3 0 : M2.1 7 = nI n1' ∧ C2.1 12 = nI n1' ∧ gN C2 = n1' ∧ n1' ≤ 80).2.2.2
  obtain ⟨-, -, -, ff⟩ : C2.1 16 = M2.1 34 ∧ C2.1 17 = nI fa ∧ M2.1 35 = nI fa ∧ fa ≤ 512 := r3 5
  obtain ⟨C3, M3, e3, b1, b2, b3, b4⟩ := begins_same r3 (by omega)
  obtain ⟨t1, t2, t3⟩ : M3.1 0 = nI t ∧ C3.1 15 = nI t ∧ t ≤ 5000 := b3 1
  unfold f_X3_passTick
  rw [s2, s1, k_bs, r1, k_bs, b1, k_bs]
  unfold goTail
  rw [r2, k_bs, b2, k_bs, t1, t2]
  have fin : ∀ (C4 : CS) (M4 : MS) (kp' : Nat), (∀ i, RI C4 M4 n1' t (t + 1) d1' e3 kp' fa i) → ∃ C' M' n' d' e' kp', f_X3_passTick_26 C4 = some (0, C') ∧ f_X4_go_84 K v1 (nI i) M4 = K v1 (nI (i + 1)) M' ∧ (∀ i, RI C' M' n' (t + 1) (t + 1) d' e' kp' fa i) ∧ e' ≤ 72 * (t + 1) + d' + 80 * fa := by
    intro C4 M4 kp' hR
    obtain ⟨q1, q2, q3⟩ : M4.1 0 = nI t ∧ C4.1 15 = nI t ∧ t ≤ 5000 := hR 1
    unfold f_X3_passTick_26 f_X4_go_84
    rw [k_ls, k_ls, q1, q2, n1, nI_add, nI_add]
    exact ⟨_, _, n1', d1', e3, kp', rfl, rfl, RI_now ht hR, by omega⟩
  by_cases z : nI t - nI t / 4 * 4 = 3
  · rw [if_pos z, if_pos z]
    obtain ⟨C4, M4, k1, k2, k3⟩ := keep_same b3
    rw [k1, k_bs, k2, k_bs]
    exact fin C4 M4 e3 k3
  · rw [if_neg z, if_neg z]
    exact fin C3 M3 kp b3
theorem go_loop {N : Nat} (hN : N ≤ 200) (k i : Nat) (C : CS) (M : MS) {fa : Nat} (n t d e kp : Nat) (hk : N < k + i) (hi : i ≤ N) (h : ∀ i, RI C M n t t d e kp fa i) (he : e ≤ 72 * t + d + 80 * fa) : ∃ q C' M' n' t' d' e' kp', f_X3_go_15 k (nI N) (nI i) C = some (q, C') ∧ f_X4_go_15 k (nI N) (nI i) M = some (q, M') ∧ (∀ i, RI C' M' n' t' t' d' e' kp' fa i) ∧ e' ≤ 72 * t' + d' + 80 * fa := by
  induction k generalizing i C M n t d e kp with
  | zero => omega
  | succ k ih =>
    obtain ⟨t1, t2, t3⟩ : M.1 0 = nI t ∧ C.1 15 = nI t ∧ t ≤ 5000 := h 1
    rw [f_X3_go_15, f_X4_go_15, t1, t2]
    by_cases h0 : N ≤ i
    · rw [if_pos (np_ h0 (by omega) (by omega)), if_pos (np_ h0 (by omega) (by omega))]
      exact ⟨nI t, C, M, n, t, d, e, kp, rfl, rfl, h, he⟩
    · rw [if_neg (nn h0 (by omega) (by omega)), if_neg (nn h0 (by omega) (by omega))]
      by_cases h5 : 5000 ≤ t
      · rw [if_pos (show 5000 ≤ nI t from np_ (a := 5000) h5 (by omega) (by omega)), if_pos (show 5000 ≤ nI t from np_ (a := 5000) h5 (by omega) (by omega))]
        exact ⟨nI t, C, M, n, t, d, e, kp, rfl, rfl, h, he⟩
      · rw [if_neg (show ¬ 5000 ≤ nI t from nn (a := 5000) h5 (by omega) (by omega)), if_neg (show ¬ 5000 ≤ nI t from nn (a := 5000) h5 (by omega) (by omega))]
        obtain ⟨C', M', n', d', e', kp', w1, w2, w3, w4⟩ := tick_same (K := fun v1 v2 M => f_X4_go_15 k v1 v2 M) (v1 := nI N) (i := i) (by omega) h he
        rw [w1, k_bs, w2, n1, nI_add]
        exact ih (i + 1) C' M' n' (t + 1) d' e' kp' (by omega) (by omega) w3 w4
theorem s_go (j : Nat) (C : CS) (M : MS) (x : Int32) (hR : RLaw j C M) : ∃ (q1 : Int32) (C1 : CS) (q2 : Int32) (M1 : MS), f_X3_go x C = some (q1, C1) ∧ f_X4_go x M = some (q2, M1) ∧ RLaw (j + 1) C1 M1 ∧ q1 = q2 := by
  have no : ∃ (q1 : Int32) (C1 : CS) (q2 : Int32) (M1 : MS), some ((-1 : Int32), C) = some (q1, C1) ∧ some ((-1 : Int32), M) = some (q2, M1) ∧ RLaw (j + 1) C1 M1 ∧ q1 = q2 := ⟨_, C, _, M, rfl, rfl, RLaw_mono hR, rfl⟩
  obtain ⟨n, t, d, e, kp, fa, h1, h⟩ := id hR
  unfold f_X3_go f_X4_go
  have e200 : ((200 : Int32)).toInt = 200 := by decide
  have e0 : ((0 : Int32)).toInt = 0 := by decide
  by_cases x1 : x < 0
  · rw [if_pos x1, show f_X4_in x 0 200 = 0 from by unfold f_X4_in; rw [if_pos x1], if_pos rfl]; exact no
  · rw [if_neg x1]
    by_cases x2 : x ≤ 200
    · rw [if_pos x2, show f_X4_in x 0 200 = 1 from by unfold f_X4_in; rw [if_neg x1, if_neg (fun q => by have a := k_lt q; have b := k_le x2; omega)], if_neg i10]
      have a1 := k_nlt x1
      have a2 := k_le x2
      obtain ⟨N, hN, rfl⟩ : ∃ N : Nat, N ≤ 200 ∧ x = nI N := ⟨x.toInt.toNat, by omega, by
        apply Int32.toInt_inj.mp
        rw [nI_toInt (by omega)]; omega⟩
      obtain ⟨q, C', M', n', t', d', e', kp', w1, w2, w3, w4⟩ := go_loop hN 300 0 C M n t d e kp (by omega) (by omega) h h1.2
      exact ⟨q, C', q, M', w1, w2, ⟨n', t', d', e', kp', fa, ⟨by omega, w4⟩, w3⟩, rfl⟩
    · rw [if_neg x2, show f_X4_in x 0 200 = 0 from by unfold f_X4_in; rw [if_neg x1, if_pos (Int32.lt_iff_toInt_lt.mpr (k_nle x2))], if_pos rfl]; exact no
