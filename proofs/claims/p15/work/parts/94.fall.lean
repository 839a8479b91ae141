theorem cut_at {P : Nat → Prop} (d : Nat) (mono : ∀ r r', r < r' → r' < d → P r → P r') : ∃ d', d' ≤ d ∧ (∀ r, r < d' → ¬ P r) ∧ ∀ r, d' ≤ r → r < d → P r := by
  induction d with
  | zero => exact ⟨0, Nat.le_refl _, fun r hr => by omega, fun r _ hr => by omega⟩
  | succ d ih =>
    obtain ⟨d', h1, h2, h3⟩ := ih (fun r r' a b => mono r r' a (by omega))
    by_cases z : P d
    · refine ⟨d', by omega, h2, fun r a b => ?_⟩
      by_cases e : r = d
      · subst e; exact z
      · exact h3 r a (by omega)
    · have : d' = d := Classical.byContradiction (fun e => z (mono d' d (by omega) (by omega) (h3 d' (Nat.le_refl _) (by omega))))
      subst this
      refine ⟨d' + 1, Nat.le_refl _, fun r hr => ?_, fun r a b => by omega⟩
      by_cases e : r = d'
      · subst e; exact z
      · exact h2 r (by omega)
theorem cp_suf {P : Nat → Prop} {d' : Nat} (d : Nat) (h2 : ∀ r, r < d' → ¬ P r) (h3 : ∀ r, d' ≤ r → r < d → P r) : cp P d = d - d' := by
  induction d with
  | zero => show 0 = _; omega
  | succ d ih =>
    have ih := ih (fun r a b => h3 r a (by omega))
    by_cases z : d' ≤ d
    · rw [cp_y (h3 d z (by omega)), ih]; omega
    · rw [cp_n (h2 d (by omega)), ih]; omega
/-- so many are lost -/
theorem fall_cnt {C : CS} {M : MS} {n t u d e kp fa E : Nat} (h : ∀ i, RI C M n t u d e kp fa i) (hE : kp ≤ E) (hEe : E ≤ e) : ∃ d', d' ≤ d ∧ (∀ r, r < d' → ¬ LX M E e (M.2.1 30 r).toNatClampNeg) ∧ (∀ r, d' ≤ r → r < d → LX M E e (M.2.1 30 r).toNatClampNeg) ∧ cp (fun a => LX M E e a) n = d - d' ∧ cp (fun j => E ≤ j ∧ M.2.1 33 (4 * j) = 2) e = d - d' := by
  obtain ⟨b1, b2, b3, b4⟩ : M.1 7 = nI n ∧ C.1 12 = nI n ∧ gN C = n ∧ n ≤ 80 := h 0
  obtain ⟨d1, d2, d3⟩ : M.1 29 = nI d ∧ C.1 13 = nI d ∧ d ≤ n := h 2
  obtain ⟨z1, z2, z3, z4, z5, z6⟩ : M.1 31 = nI e ∧ C.1 21 = nI e ∧ 4 * e ≤ M.2.2 ∧ lnOK M.2.2 ∧ e ≤ gE C ∧ isE (gE C) := h 3
  have hl : M.2.2 ≤ 2048000 := by unfold lnOK at z4; omega
  have rw30 : ∀ r, r < d → ∃ b, b < n ∧ M.2.1 30 r = nI b ∧ (M.2.1 30 r).toNatClampNeg = b ∧ (M.2.1 11 b = 2 ∨ M.2.1 11 b = 3) := fun r hr => by
    obtain ⟨-, b, g1, g2, g3⟩ := h 14 r hr
    exact ⟨b, g1, g2, by rw [g2, nc b (by omega)], g3⟩
  have mono : ∀ r r', r < r' → r' < d → LX M E e (M.2.1 30 r).toNatClampNeg → LX M E e (M.2.1 30 r').toNatClampNeg := fun r r' h1 h2 hL => by
    obtain ⟨a, a1, a2, a3, -⟩ := rw30 r (by omega)
    obtain ⟨b, c1, c2, c3, -⟩ := rw30 r' h2
    rw [a3] at hL; rw [c3]
    obtain ⟨-, s2, j, j1, j2, j3⟩ := LX_c h hE (by omega) hL
    have s2' : M.2.1 11 b = 2 := (h 22 r r' a b j j h1 h2 a2 (by omega) c2 (by omega) s2).1
    obtain ⟨i, i1, i2, i3, i4, i5⟩ := h 18 b c1 s2'
    have := (h 22 r r' a b j i h1 h2 a2 (by omega) c2 (by omega) s2).2 j3 j2 i3 i2
    exact ⟨i, by omega, i2, i4, i5⟩
  obtain ⟨d', e1, e2, e3⟩ := cut_at d mono
  have cs := cp_suf (P := fun r => LX M E e (M.2.1 30 r).toNatClampNeg) d e2 e3
  have exr : ∀ a, ∃ r, (a < n ∧ LX M E e a) → r < d ∧ M.2.1 30 r = nI a := fun a => by
    by_cases z : a < n ∧ LX M E e a
    · obtain ⟨r, r1, r2⟩ := h 16 a z.1 (Or.inl (LX_c h hE (by omega) z.2).2.1)
      exact ⟨r, fun _ => ⟨r1, r2⟩⟩
    · exact ⟨0, fun q => absurd q z⟩
  have exj : ∀ a, ∃ j, LX M E e a → E ≤ j ∧ j < e ∧ M.2.1 33 (4 * j) = 2 ∧ M.2.1 33 (4 * j + 1) = nI a := fun a => by
    by_cases z : LX M E e a
    · obtain ⟨j, q⟩ := z
      exact ⟨j, fun _ => q⟩
    · exact ⟨0, fun q => absurd q z⟩
  have spr : ∀ a, (a < n ∧ LX M E e a) → Classical.choose (exr a) < d ∧ M.2.1 30 (Classical.choose (exr a)) = nI a := fun a => Classical.choose_spec (exr a)
  have spj : ∀ a, LX M E e a → E ≤ Classical.choose (exj a) ∧ Classical.choose (exj a) < e ∧ M.2.1 33 (4 * Classical.choose (exj a)) = 2 ∧ M.2.1 33 (4 * Classical.choose (exj a) + 1) = nI a := fun a => Classical.choose_spec (exj a)
  have l1 : cp (fun a => LX M E e a) n ≤ cp (fun r => LX M E e (M.2.1 30 r).toNatClampNeg) d := cp_le n d (fun a => Classical.choose (exr a)) _ (fun a ha hL => by
      obtain ⟨s1, s2⟩ := spr a ⟨ha, hL⟩
      exact ⟨s1, by show LX M E e (M.2.1 30 (Classical.choose (exr a))).toNatClampNeg; rw [s2, nc a (by omega)]; exact hL⟩) (fun a b hab hb hA hB q => by
      have q : Classical.choose (exr a) = Classical.choose (exr b) := q
      obtain ⟨-, s2⟩ := spr a ⟨by omega, hA⟩
      obtain ⟨-, s4⟩ := spr b ⟨hb, hB⟩
      rw [q, s4] at s2
      have := (nIeq (a := b) (b := a) (by omega) (by omega)).mp s2; omega)
  have l2 : cp (fun r => LX M E e (M.2.1 30 r).toNatClampNeg) d ≤ cp (fun a => LX M E e a) n := cp_le d n (fun r => (M.2.1 30 r).toNatClampNeg) _ (fun r hr hL => by
      obtain ⟨b, g1, g2, g3, -⟩ := rw30 r hr
      exact ⟨by show (M.2.1 30 r).toNatClampNeg < n; omega, hL⟩) (fun r r' hrr hr' _ _ q => by
      obtain ⟨b, g1, g2, g3, -⟩ := rw30 r (by omega)
      obtain ⟨b', g1', g2', g3', -⟩ := rw30 r' hr'
      have q : (M.2.1 30 r).toNatClampNeg = (M.2.1 30 r').toNatClampNeg := q
      rw [g3, g3'] at q
      exact h 15 r r' hrr hr' (by rw [g2, g2', q]))
  have l3 : cp (fun j => E ≤ j ∧ M.2.1 33 (4 * j) = 2) e ≤ cp (fun a => LX M E e a) n := cp_le e n (fun j => (M.2.1 33 (4 * j + 1)).toNatClampNeg) _ (fun j hj hP => by
      obtain ⟨x, x1, x2, x3, x4⟩ := h 19 j (by have := hP.1; omega) hj hP.2
      show (M.2.1 33 (4 * j + 1)).toNatClampNeg < n ∧ LX M E e (M.2.1 33 (4 * j + 1)).toNatClampNeg
      rw [x2, nc x (by omega)]
      exact ⟨x1, j, hP.1, hj, hP.2, x2⟩) (fun j j' hjj hj' hP hP' q => by
      obtain ⟨x, x1, x2, x3, x4⟩ := h 19 j (by have := hP.1; omega) (by omega) hP.2
      obtain ⟨y, y1, y2, y3, y4⟩ := h 19 j' (by have := hP'.1; omega) hj' hP'.2
      have q : (M.2.1 33 (4 * j + 1)).toNatClampNeg = (M.2.1 33 (4 * j' + 1)).toNatClampNeg := q
      rw [x2, y2, nc x (by omega), nc y (by omega)] at q
      subst q
      have := (nIeq (a := j) (b := j') (by omega) (by omega)).mp (x4.symm.trans y4); omega)
  have l4 : cp (fun a => LX M E e a) n ≤ cp (fun j => E ≤ j ∧ M.2.1 33 (4 * j) = 2) e := cp_le n e (fun a => Classical.choose (exj a)) _ (fun a ha hL => by
      obtain ⟨s1, s2, s3, s4⟩ := spj a hL
      exact ⟨s2, s1, s3⟩) (fun a b hab hb hA hB q => by
      have q : Classical.choose (exj a) = Classical.choose (exj b) := q
      have s2 := (spj a hA).2.2.2
      have s4 := (spj b hB).2.2.2
      rw [q, s4] at s2
      have := (nIeq (a := b) (b := a) (by omega) (by omega)).mp s2; omega)
  exact ⟨d', e1, e2, e3, by omega, by omega⟩
theorem s_fall (j : Nat) (C : CS) (M : MS) (x : Int32) (hj : j < 512) (hR : RLaw j C M) : ∃ (q1 : Int32) (C1 : CS) (q2 : Int32) (M1 : MS), f_X3_fall x C = some (q1, C1) ∧ f_X4_fall x M = some (q2, M1) ∧ RLaw (j + 1) C1 M1 ∧ q1 = q2 := by
  have no : ∃ (q1 : Int32) (C1 : CS) (q2 : Int32) (M1 : MS), some ((-1 : Int32), C) = some (q1, C1) ∧ some ((-1 : Int32), M) = some (q2, M1) ∧ RLaw (j + 1) C1 M1 ∧ q1 = q2 := ⟨_, C, _, M, rfl, rfl, RLaw_mono hR, rfl⟩
  obtain ⟨n, t, d, e, kp, fa, h1, h⟩ := id hR
  obtain ⟨b1, b2, b3, b4⟩ : M.1 7 = nI n ∧ C.1 12 = nI n ∧ gN C = n ∧ n ≤ 80 := h 0
  obtain ⟨t1, t2, t3⟩ : M.1 0 = nI t ∧ C.1 15 = nI t ∧ t ≤ 5000 := h 1
  obtain ⟨d1, d2, d3⟩ : M.1 29 = nI d ∧ C.1 13 = nI d ∧ d ≤ n := h 2
  obtain ⟨z1, z2, z3, z4, z5, z6⟩ : M.1 31 = nI e ∧ C.1 21 = nI e ∧ 4 * e ≤ M.2.2 ∧ lnOK M.2.2 ∧ e ≤ gE C ∧ isE (gE C) := h 3
  obtain ⟨k1, k2, k3⟩ : M.1 32 = nI kp ∧ C.1 22 = nI kp ∧ kp ≤ e := h 4
  obtain ⟨f1, f2, f3, f4⟩ : C.1 16 = M.1 34 ∧ C.1 17 = nI fa ∧ M.1 35 = nI fa ∧ fa ≤ 512 := h 5
  have hl : M.2.2 ≤ 2048000 := by unfold lnOK at z4; omega
  have e0 : ((0 : Int32)).toInt = 0 := by decide
  by_cases x1 : x < 0
  · unfold f_X3_fall f_X4_fall
    rw [if_pos x1, if_pos x1]; exact no
  by_cases x2n : ¬ x ≤ nI (e - kp)
  · unfold f_X3_fall f_X4_fall
    rw [if_neg x1, if_neg x1, z1, z2, k1, k2, nI_sub2 k3, if_neg x2n, if_neg x2n]; exact no
  have x2 : x ≤ nI (e - kp) := Classical.byContradiction x2n
  have a1 := k_nlt x1
  have a2 := k_le x2
  rw [nI_toInt (by omega)] at a2
  obtain ⟨X, hX, rfl⟩ : ∃ X : Nat, kp + X ≤ e ∧ x = nI X := ⟨x.toInt.toNat, by omega, by
    apply Int32.toInt_inj.mp
    rw [nI_toInt (by omega)]; omega⟩
  obtain ⟨d', c1, c2, c3, c4, c5⟩ := fall_cnt h (show kp ≤ kp + X by omega) hX
  obtain ⟨M', m1, ⟨m7, m0, m29, m31, m32, m34, m35⟩, m22, mrow, mv1, mv2, mact, mnew, mz⟩ := m_fall h hX c5 c1
  generalize hE : kp + X = E at *
  have kE : kp ≤ E := by omega
  -- the class
  generalize hC5 : cN (cN (cN C 21 (nI E)) 22 (nI E)) 17 (nI (fa + 1)) = C5
  have C5N : gN C5 = n := by rw [← hC5]; exact b3
  have C521 : C5.1 21 = nI E := by rw [← hC5]; rfl
  obtain ⟨C6, w1, w2⟩ := c_fall_67 (C := C) (C5 := C5) (M := M) h kE hX C5N C521 200 n C5 (by omega) (Nat.le_refl _) ⟨cSame_rf C5, fun a _ => by rw [← hC5]; exact ⟨rfl, rfl⟩, fun a h1 h2 => by omega⟩
  rw [Nat.sub_self, c4] at w1
  obtain ⟨S6, -, A6⟩ := w2
  have A6 : ∀ a, a < n → CN M E e (gP C6 a) (gQ C6 a) (gP C a) (gQ C a) a := fun a ha => A6 a (by omega) ha
  have C6r : C6.2.1 = C.2.1 := by rw [S6.2.1, ← hC5]; rfl
  have C6n : ∀ k, k ≠ 17 → k ≠ 21 → k ≠ 22 → C6.1 k = C.1 k := fun k q1 q2 q3 => by
    rw [S6.1, ← hC5, cN_1, if_neg q1, cN_1, if_neg q3, cN_1, if_neg q2]
  have C6e : gE C6 = gE C := by rw [S6.2.2.2.1, ← hC5]; rfl
  have C6N : gN C6 = n := S6.2.2.2.2.trans C5N
  -- the row of done acts
  have rw30 : ∀ r, r < d → ∃ b, b < n ∧ M.2.1 30 r = nI b ∧ (M.2.1 30 r).toNatClampNeg = b ∧ (M.2.1 11 b = 2 ∨ M.2.1 11 b = 3) := fun r hr => by
    obtain ⟨-, b, g1, g2, g3⟩ := h 14 r hr
    exact ⟨b, g1, g2, by rw [g2, nc b (by omega)], g3⟩
  have nV : ∀ a, a < n → (M.2.1 11 a = 2 ∨ M.2.1 11 a = 3) → ¬ LX M E e a → ¬ VX M E e a := fun a ha hs hL ⟨p, p1, p2, p3⟩ => by
    obtain ⟨r, r1, r2⟩ := h 16 a ha hs
    obtain ⟨i, i1, i2⟩ := h 23 r a p r1 r2 (by omega) p3 p1
    by_cases z : i < d'
    · exact c2 i z (by rw [i2, nc p (by omega)]; exact p2)
    · exact hL (by have := c3 r (by omega) r1; rw [r2, nc a (by omega)] at this; exact this)
  have nv21 : ∀ a, a < n → M.2.1 11 a ≠ 4 → M.2.1 21 a = 0 := fun a ha hs => by
    rcases h 12 a ha 10 with q | ⟨-, q, -⟩
    · exact q
    · exact absurd q hs
  -- what is so of each act
  have G : ∀ a, a < n → (∀ k, k = 0 ∨ k = 1 ∨ k = 2 ∨ k = 3 ∨ k = 15 ∨ k = 16 → gP C6 a k = gP C a k) ∧ gP C6 a 12 = M'.2.1 11 a ∧ gP C6 a 17 = M'.2.1 17 a ∧ gP C6 a 19 = M'.2.1 18 a ∧ (M'.2.1 11 a = 0 → (∀ c, c < 24 → gQ C6 a 5 c = 0) ∧ (∀ c, c < 8 → gQ C6 a 7 c = 0 ∧ gQ C6 a 8 c = 0) ∧ gP C6 a 11 = 0) ∧ (M'.2.1 21 a = 0 ∨ (M'.2.1 21 a = 1 ∧ M'.2.1 11 a = 4 ∧ gP C6 a 18 = -1)) ∧ (M'.2.1 11 a = 0 ∨ M'.2.1 11 a = 3 ∨ M'.2.1 11 a = 4) ∧ (M'.2.1 11 a = 3 → (M.2.1 11 a = 2 ∨ M.2.1 11 a = 3) ∧ ¬ LX M E e a ∧ ¬ ZF M n E e a ∧ gQ C6 a = gQ C a ∧ M'.2.1 17 a = M.2.1 17 a) ∧ (M'.2.1 11 a = 4 → gP C6 a 18 = -1 ∨ ∃ i, i < E ∧ gP C6 a 18 = nI i) ∧ (M'.2.1 11 a = 3 ∨ M'.2.1 17 a = -1) ∧ ((M.2.1 11 a = 2 ∨ M.2.1 11 a = 3) → ¬ LX M E e a → M'.2.1 11 a = 3) ∧ ((M.2.1 21 a = 1 ∨ VX M E e a) → M'.2.1 21 a = 1) := by
    intro a ha
    have a80 : a < 80 := by omega
    have hA := h 12 a ha
    obtain ⟨mA1, mA2⟩ := mact a ha
    have lq : (∀ c, c < 24 → lvQ (gQ C a) 5 c = 0) ∧ (∀ c, c < 8 → lvQ (gQ C a) 7 c = 0 ∧ lvQ (gQ C a) 8 c = 0) := ⟨fun c hc => if_pos hc, fun c hc => ⟨if_pos hc, if_pos hc⟩⟩
    rcases A6 a ha with ⟨hV, hP, hQ⟩ | ⟨hV, hBL, hP, hQ⟩ | ⟨hV, hBL, hS, hP, hQ⟩ | ⟨hV, hBL, hS, hP, hQ⟩
    · obtain ⟨y1, y2, y3, y4⟩ := mA1 (Or.inr hV)
      rw [hP, hQ, y1, y2, y3, y4]
      refine ⟨fun k hk => ?_, rfl, rfl, (hA 5).2.2, fun q => absurd q (by decide), Or.inr ⟨rfl, rfl, rfl⟩, Or.inr (Or.inr rfl), fun q => absurd q (by decide), fun _ => Or.inl rfl, Or.inr rfl, fun q1 q2 => absurd hV (nV a ha q1 q2), fun _ => rfl⟩
      rcases hk with rfl | rfl | rfl | rfl | rfl | rfl <;> rfl
    · have ns4 : M.2.1 11 a ≠ 4 := fun q => by
        rcases hBL with z | z
        · rw [z] at q; exact absurd q (by decide)
        · rw [(LX_c h kE a80 z).2.1] at q; exact absurd q (by decide)
      have v0 := nv21 a ha ns4
      have nvd : ¬ (M.2.1 21 a = 1 ∨ VX M E e a) := fun q => by
        rcases q with q | q
        · rw [v0] at q; exact absurd q (by decide)
        · exact hV q
      obtain ⟨y1, y2, -, y4, y5⟩ := mA2 nvd
      obtain ⟨y6, y7⟩ := y2 hBL
      have y17 : M'.2.1 17 a = -1 := by
        by_cases z : LX M E e a ∨ SX M E e a
        · exact y4 z
        · rw [y5 z]
          have s1 : M.2.1 11 a = 1 := by rcases hBL with q | q; exact q; exact absurd (Or.inl q) z
          rcases hA 12 with q | q | q
          · rw [s1] at q; exact absurd q (by decide)
          · rw [s1] at q; exact absurd q (by decide)
          · exact q
      rw [hP, hQ, y1, y6, y7, y17]
      refine ⟨fun k hk => ?_, rfl, rfl, ?_, fun _ => ⟨lq.1, lq.2, rfl⟩, Or.inl rfl, Or.inl rfl, fun q => absurd q (by decide), fun q => absurd q (by decide), Or.inr rfl, fun q1 q2 => ?_, fun q => absurd q nvd⟩
      · rcases hk with rfl | rfl | rfl | rfl | rfl | rfl <;> rfl
      · rw [upd_get, if_pos rfl, (hA 5).2.2]
      · rcases hBL with z | z
        · rw [z] at q1; rcases q1 with q1 | q1 <;> exact absurd q1 (by decide)
        · exact absurd z q2
    · obtain ⟨-, s4, v0, -⟩ := SX_c h kE a80 hS
      have nvd : ¬ (M.2.1 21 a = 1 ∨ VX M E e a) := fun q => by
        rcases q with q | q
        · rw [v0] at q; exact absurd q (by decide)
        · exact hV q
      obtain ⟨y1, -, y3, y4, -⟩ := mA2 nvd
      obtain ⟨y6, y7, -⟩ := y3 hBL
      rw [hP, hQ, y1, y7 hS, y6, y4 (Or.inr hS)]
      refine ⟨fun k hk => ?_, rfl, rfl, (hA 5).2.2, fun _ => ⟨lq.1, lq.2, rfl⟩, Or.inl rfl, Or.inl rfl, fun q => absurd q (by decide), fun q => absurd q (by decide), Or.inr rfl, fun q1 q2 => ?_, fun q => absurd q nvd⟩
      · rcases hk with rfl | rfl | rfl | rfl | rfl | rfl <;> rfl
      · rw [s4] at q1; rcases q1 with q1 | q1 <;> exact absurd q1 (by decide)
    · have nB : M.2.1 11 a ≠ 1 := fun q => hBL (Or.inl q)
      have nL : ¬ LX M E e a := fun q => hBL (Or.inr q)
      by_cases v1 : M.2.1 21 a = 1
      · rcases hA 10 with q | ⟨-, s4, q18⟩
        · rw [v1] at q; exact absurd q (by decide)
        · obtain ⟨y1, y2, y3, y4⟩ := mA1 (Or.inl v1)
          rw [if_neg (by rw [s4]; decide)] at hP
          have g12 : gP C a 12 = 4 := by rw [(hA 4).1, s4]
          have g17 : gP C a 17 = -1 := by
            rw [(hA 5).2.1]
            rcases hA 12 with q | q | q
            · rw [s4] at q; exact absurd q (by decide)
            · rw [s4] at q; exact absurd q (by decide)
            · exact q
          rw [hP, hQ, y1, y2, y3, y4]
          refine ⟨fun _ _ => rfl, g12, g17, (hA 5).2.2, fun q => absurd q (by decide), Or.inr ⟨rfl, rfl, q18⟩, Or.inr (Or.inr rfl), fun q => absurd q (by decide), fun _ => Or.inl q18, Or.inr rfl, fun q1 _ => ?_, fun _ => rfl⟩
          rw [s4] at q1; rcases q1 with q1 | q1 <;> exact absurd q1 (by decide)
      · have nvd : ¬ (M.2.1 21 a = 1 ∨ VX M E e a) := fun q => by
          rcases q with q | q
          · exact v1 q
          · exact hV q
        obtain ⟨y1, -, y3, -, y5⟩ := mA2 nvd
        obtain ⟨y6, -, y8⟩ := y3 hBL
        have y8 := y8 hS
        have y5 := y5 (fun q => by rcases q with q | q; exact nL q; exact hS q)
        have nZ : ¬ ZF M n E e a := fun q => by
          rcases q.2 with z | z | z | z | z
          · exact nB z
          · exact nL z
          · exact hS z
          · exact v1 z
          · exact hV z
        have gk : ∀ k, k ≠ 12 → gP C6 a k = gP C a k := fun k hk => by
          rw [hP]
          by_cases z : M.2.1 11 a = 2
          · rw [if_pos z, upd_get, if_neg hk]
          · rw [if_neg z]
        have g12 : gP C6 a 12 = M'.2.1 11 a := by
          rw [hP, y8]
          by_cases z : M.2.1 11 a = 2
          · rw [if_pos z, if_pos z, upd_get, if_pos rfl]
          · rw [if_neg z, if_neg z]; exact (hA 4).1
        obtain ⟨-, s, s4, es⟩ := hA 4
        have st : M'.2.1 11 a = 3 ∧ (M.2.1 11 a = 2 ∨ M.2.1 11 a = 3) ∨ (M'.2.1 11 a = M.2.1 11 a ∧ (M.2.1 11 a = 0 ∨ M.2.1 11 a = 4)) := by
          rw [y8]
          have hh : s = 0 ∨ s = 1 ∨ s = 2 ∨ s = 3 ∨ s = 4 := by omega
          rcases hh with rfl | rfl | rfl | rfl | rfl
          · rw [es]; exact Or.inr ⟨if_neg (by decide), Or.inl rfl⟩
          · exact absurd es nB
          · rw [es]; exact Or.inl ⟨if_pos rfl, Or.inl rfl⟩
          · rw [es]; exact Or.inl ⟨if_neg (by decide), Or.inr rfl⟩
          · rw [es]; exact Or.inr ⟨if_neg (by decide), Or.inr rfl⟩
        refine ⟨fun k hk => gk k (by omega), g12, by rw [gk 17 (by omega), y5]; exact (hA 5).2.1, by rw [gk 19 (by omega), y6]; exact (hA 5).2.2, fun q => ?_, Or.inl y1, ?_, fun q => ?_, fun q => ?_, ?_, fun q1 q2 => ?_, fun q => absurd q nvd⟩
        · rcases st with ⟨w, -⟩ | ⟨w, -⟩
          · rw [w] at q; exact absurd q (by decide)
          · rw [w] at q
            rw [hQ, gk 11 (by omega)]; exact hA 8 q
        · rcases st with ⟨w, -⟩ | ⟨w, w2 | w2⟩
          · exact Or.inr (Or.inl w)
          · exact Or.inl (w.trans w2)
          · exact Or.inr (Or.inr (w.trans w2))
        · rcases st with ⟨-, w⟩ | ⟨w, w2 | w2⟩
          · exact ⟨w, nL, nZ, hQ, y5⟩
          · rw [w, w2] at q; exact absurd q (by decide)
          · rw [w, w2] at q; exact absurd q (by decide)
        · rcases st with ⟨w, -⟩ | ⟨w, -⟩
          · rw [w] at q; exact absurd q (by decide)
          · rw [w] at q
            rw [gk 18 (by omega)]
            rcases h 21 a ha q with g | ⟨i, g1, g2, g3⟩
            · exact Or.inl g
            · by_cases z : i < E
              · exact Or.inr ⟨i, z, g2⟩
              · obtain ⟨w1, w2⟩ := g3 (by omega)
                exact absurd ⟨i, by omega, g1, w1, w2⟩ hS
        · rcases st with ⟨w, -⟩ | ⟨w, w2⟩
          · exact Or.inl w
          · right; rw [y5]
            rcases hA 12 with q | q | q
            · rcases w2 with w2 | w2 <;> (rw [w2] at q; exact absurd q (by decide))
            · rcases w2 with w2 | w2 <;> (rw [w2] at q; exact absurd q (by decide))
            · exact q
        · rcases st with ⟨w, -⟩ | ⟨-, w⟩
          · exact w
          · rcases w with w | w <;> (rw [w] at q1; rcases q1 with q1 | q1 <;> exact absurd q1 (by decide))
  have keptR : ∀ r, r < d' → M'.2.1 11 (M.2.1 30 r).toNatClampNeg = 3 := fun r hr => by
    obtain ⟨b, g1, g2, g3, g4⟩ := rw30 r (by omega)
    have := c2 r hr
    rw [g3] at this ⊢
    exact (G b g1).2.2.2.2.2.2.2.2.2.2.1 g4 this
  -- the row is cut, the values are told again
  have drop : f_X3_dropUndoneFromRow C6 = some (0, cN C6 13 (nI d')) := by
    refine c_drop_4 (C := C6) (n := n) (d := d) (d' := d') (r := fun r => (M.2.1 30 r).toNatClampNeg) b4 d3 c1 (by rw [C6n 13 (by omega) (by omega) (by omega)]; exact d2) C6N (fun i hi => ?_) (fun i hi => ?_) (fun i h1 h2 => ?_) 200 0 0 (by omega) (by omega) ?_
    · obtain ⟨b, g1, g2, g3, g4⟩ := rw30 i hi
      rw [C6r, (h 14 i hi).1]; show M.2.1 30 i = nI (M.2.1 30 i).toNatClampNeg ∧ (M.2.1 30 i).toNatClampNeg < n
      rw [g3]; exact ⟨g2, g1⟩
    · obtain ⟨b, g1, g2, g3, g4⟩ := rw30 i (by omega)
      have := keptR i hi
      show gP C6 (M.2.1 30 i).toNatClampNeg 12 = 3
      rw [g3] at this ⊢
      rw [(G b g1).2.1]; exact this
    · obtain ⟨b, g1, g2, g3, g4⟩ := rw30 i h2
      have hL := c3 i h1 h2
      show gP C6 (M.2.1 30 i).toNatClampNeg 12 ≠ 3
      rw [g3] at hL ⊢
      rw [(G b g1).2.1]
      exact fun q => ((G b g1).2.2.2.2.2.2.2.1 q).2.1 hL
    · by_cases z : 0 < d'
      · rw [if_pos z]
      · rw [if_neg z]; omega
  obtain ⟨F, rt1, rt2, rt3⟩ := c_retell_10 (C := cN C6 13 (nI d')) (M := M') (n := n) (d := d') (r := fun r => (M.2.1 30 r).toNatClampNeg) b4 (by omega) rfl C6N (fun i hi => by
    obtain ⟨b, g1, g2, g3, g4⟩ := rw30 i (by omega)
    show C6.2.1 7 i = nI (M.2.1 30 i).toNatClampNeg ∧ (M.2.1 30 i).toNatClampNeg < n ∧ M'.2.1 30 i = nI (M.2.1 30 i).toNatClampNeg
    rw [C6r, (h 14 i (by omega)).1, g3, mrow 30 (by omega)]; exact ⟨g2, g1, g2⟩) (fun i hi => by
    obtain ⟨b, g1, g2, g3, g4⟩ := rw30 i (by omega)
    have s3 := keptR i hi
    show (∀ c, c < 24 → (gQ C6 (M.2.1 30 i).toNatClampNeg 5 c = 2 ↔ M'.2.1 23 (24 * (M.2.1 30 i).toNatClampNeg + c) = 3) ∧ (M'.2.1 23 (24 * (M.2.1 30 i).toNatClampNeg + c) = 3 → gQ C6 (M.2.1 30 i).toNatClampNeg 6 c = M'.2.1 24 (24 * (M.2.1 30 i).toNatClampNeg + c))) ∧ ∀ c, c < 8 → gQ C6 (M.2.1 30 i).toNatClampNeg 7 c = M'.2.1 25 (8 * (M.2.1 30 i).toNatClampNeg + c)
    rw [g3] at s3 ⊢
    obtain ⟨w1, w2, w3, w4, w5⟩ := (G b g1).2.2.2.2.2.2.2.1 s3
    obtain ⟨D1, D2, -⟩ := h 12 b g1 7 w1
    obtain ⟨Z1, Z2⟩ := mz b w3
    refine ⟨fun c hc => ?_, fun c hc => ?_⟩
    · rw [w4, Z1 c hc, mrow 24 (by omega)]; exact D1 c hc
    · rw [w4, Z2 c hc]; exact D2 c hc) 200 0 (k_fil 32 0 ((cN C6 13 (nI d')).2.1 4)) (by omega) (by omega) (fun c hc => if_pos (by omega)) (fun c hc => if_pos (by omega))
  have tail : cTail (nI (d - d')) C6 = some (nI (d - d'), cAF (cN C6 13 (nI d')) 4 F) := by
    unfold cTail
    rw [drop, k_bs]
    unfold f_X3_retellValues
    rw [k_ls, show f_X3_retellValues_10 200 0 (cAF (cN C6 13 (nI d')) 4 (k_fil 32 0 ((cN C6 13 (nI d')).2.1 4))) = _ from rt1, k_bs]
  have cls : f_X3_fall (nI X) C = some (nI (d - d'), cAF (cN C6 13 (nI d')) 4 F) := by
    unfold f_X3_fall f_X1_cut f_X1_keepAll
    rw [if_neg x1, z2, k2, nI_sub2 k3, if_pos x2, nI_add, hE, if_neg (show ¬ nI E < 0 from fun z => by have := (nIlt (a := E) (b := 0) (by omega) (by omega)).mp z; omega), if_neg (show ¬ nI e < nI E from fun z => by have := (nIlt (a := e) (b := E) (by omega) (by omega)).mp z; omega), k_ls, k_bs, k_ls, k_bs, k_ls]
    have e5 : cN (cN (cN C 21 (nI E)) 22 ((cN C 21 (nI E)).1 21)) 17 ((cN (cN C 21 (nI E)) 22 ((cN C 21 (nI E)).1 21)).1 17 + 1) = C5 := by
      rw [← hC5, show (cN C 21 (nI E)).1 21 = nI E from rfl, show (cN (cN C 21 (nI E)) 22 (nI E)).1 17 = nI fa from f2, n1, nI_add]
    rw [e5, show C5.1 12 = nI n from by rw [← hC5]; exact b2]
    exact w1.trans tail
  refine ⟨_, _, _, _, cls, m1, ⟨n, t, d', E, E, fa + 1, ⟨by omega, by omega⟩, ?_⟩, rfl⟩
  generalize hC8 : cAF (cN C6 13 (nI d')) 4 F = C8
  have C8P : gP C8 = gP C6 := by rw [← hC8]; rfl
  have C8Q : gQ C8 = gQ C6 := by rw [← hC8]; rfl
  have C8n : ∀ k, k ≠ 13 → C8.1 k = C6.1 k := fun k hk => by rw [← hC8]; show (cN C6 13 (nI d')).1 k = _; rw [cN_1, if_neg hk]
  have C8r : ∀ k, k ≠ 4 → C8.2.1 k = C.2.1 k := fun k hk => by rw [← hC8, cA_21, if_neg hk]; show C6.2.1 k = _; rw [C6r]
  have C84 : C8.2.1 4 = F := by rw [← hC8]; rfl
  have n3 : ∀ a, a < n → M'.2.1 11 a ≠ 1 ∧ M'.2.1 11 a ≠ 2 := fun a ha => by
    rcases (G a ha).2.2.2.2.2.2.1 with q | q | q <;> (rw [q]; decide)
  have dnn : ∀ i a, i < d → M.2.1 30 i = nI a → a < 80 → a < n := fun i a hi ha h80 => by
    obtain ⟨b, g1, g2, -⟩ := rw30 i hi
    have := (nIeq (a := a) (b := b) (by omega) (by omega)).mp (ha.symm.trans g2)
    omega
  intro i
  match i with
  | 0 => exact ⟨m7, by rw [C8n 12 (by omega), C6n 12 (by omega) (by omega) (by omega)]; exact b2, by rw [← hC8]; exact C6N, b4⟩
  | 1 => exact ⟨m0, by rw [C8n 15 (by omega), C6n 15 (by omega) (by omega) (by omega)]; exact t2, t3⟩
  | 2 => exact ⟨m29, by rw [← hC8]; rfl, by omega⟩
  | 3 => exact ⟨m31, by rw [C8n 21 (by omega), S6.1]; exact C521, by rw [m22]; omega, by rw [m22]; exact z4, by rw [← hC8]; show E ≤ gE C6; rw [C6e]; omega, by rw [← hC8]; show isE (gE C6); rw [C6e]; exact z6⟩
  | 4 => exact ⟨m32, by rw [C8n 22 (by omega), S6.1, ← hC5]; rfl, Nat.le_refl _⟩
  | 5 => exact ⟨by rw [C8n 16 (by omega), C6n 16 (by omega) (by omega) (by omega), m34]; exact f1, by rw [C8n 17 (by omega), S6.1, ← hC5]; rfl, m35, by omega⟩
  | 6 => simp only [RI, C8r 1 (by omega), mrow 5 (by omega)]; exact h 6
  | 7 => simp only [RI, C8r 0 (by omega), mrow 6 (by omega)]; exact h 7
  | 8 => simp only [RI, C8r 2 (by omega), mrow 4 (by omega)]; exact h 8
  | 9 => simp only [RI, C8r 3 (by omega), mrow 3 (by omega)]; exact h 9
  | 10 => exact fun c hc => ⟨by rw [C84, rt2 c hc, mv1 c hc], mv1 c hc⟩
  | 11 => exact fun c hc => ⟨by rw [C84, rt3 c hc, mv2 c hc], mv2 c hc⟩
  | 12 =>
    intro a ha i
    obtain ⟨g1, g2, g3, g4, g5, g6, g7, g8, g9, g10, g11, g12⟩ := G a ha
    have hA := h 12 a ha
    match i with
    | 0 => simp only [RA, C8P, g1 0 (by omega), mrow 8 (by omega)]; exact hA 0
    | 1 => simp only [RA, C8P, g1 1 (by omega), mrow 9 (by omega)]; exact hA 1
    | 2 => simp only [RA, C8P, g1 2 (by omega), mrow 10 (by omega)]; exact hA 2
    | 3 => simp only [RA, C8P, g1 3 (by omega), mrow 19 (by omega)]; exact hA 3
    | 4 =>
      refine ⟨by rw [C8P]; exact g2, ?_⟩
      rcases g7 with q | q | q
      · exact ⟨0, by omega, q⟩
      · exact ⟨3, by omega, q⟩
      · exact ⟨4, by omega, q⟩
    | 5 => exact ⟨by rw [C8P, g1 16 (by omega), mrow 20 (by omega)]; exact (hA 5).1, by rw [C8P]; exact g3, by rw [C8P]; exact g4⟩
    | 6 => exact fun q => absurd q (n3 a ha).1
    | 7 =>
      intro q
      have s3 : M'.2.1 11 a = 3 := by rcases q with q | q; exact absurd q (n3 a ha).2; exact q
      obtain ⟨w1, w2, w3, w4, w5⟩ := g8 s3
      obtain ⟨D1, D2, s, D3, D4⟩ := hA 7 w1
      obtain ⟨Z1, Z2⟩ := mz a w3
      refine ⟨fun c hc => ?_, fun c hc => ?_, s, D3, by rw [w5]; exact D4⟩
      · rw [C8Q, w4, Z1 c hc, mrow 24 (by omega)]; exact D1 c hc
      · rw [C8Q, w4, Z2 c hc]; exact D2 c hc
    | 8 => intro q; rw [C8P, C8Q]; exact g5 q
    | 9 => simp only [RA, C8P, g1 15 (by omega)]; exact hA 9
    | 10 => simp only [RA, C8P]; exact g6
    | 11 =>
      intro p hp hpe
      rw [mrow 19 (by omega)] at hpe
      rcases hA 11 p hp hpe with q | q
      · exact Or.inl (g12 (Or.inl q))
      · by_cases z : LX M E e p
        · exact Or.inl (g12 (Or.inr ⟨p, hp, z, hpe⟩))
        · have pn : p < n := Classical.byContradiction (fun y => by
            have := (h 25 p (by omega) hp).1
            rw [this] at q; rcases q with q | q <;> exact absurd q (by decide))
          exact Or.inr (Or.inr ((G p pn).2.2.2.2.2.2.2.2.2.2.1 q z))
    | 12 => exact Or.inr g10
    | k + 13 => trivial
  | 13 => simp only [RI, C8r 6 (by omega), ahd_c (mrow 10 (by omega))]; exact h 13
  | 14 =>
    intro i hi
    obtain ⟨b, g1, g2, g3, g4⟩ := rw30 i (by omega)
    have s3 := keptR i hi
    rw [g3] at s3
    rw [C8r 7 (by omega), mrow 30 (by omega)]
    exact ⟨(h 14 i (by omega)).1, b, g1, g2, Or.inr s3⟩
  | 15 =>
    intro i k hik hk
    rw [mrow 30 (by omega)]; exact h 15 i k hik (by omega)
  | 16 =>
    intro b hb q
    have s3 : M'.2.1 11 b = 3 := by rcases q with q | q; exact absurd q (n3 b hb).2; exact q
    obtain ⟨w1, w2, -⟩ := (G b hb).2.2.2.2.2.2.2.1 s3
    obtain ⟨i, i1, i2⟩ := h 16 b hb w1
    refine ⟨i, Classical.byContradiction (fun z => w2 ?_), by rw [mrow 30 (by omega)]; exact i2⟩
    have := c3 i (by omega) i1
    rw [i2, nc b (by omega)] at this; exact this
  | 17 =>
    intro i hi
    rw [mrow 33 (by omega), C8r 20 (by omega)]; exact h 17 i (by omega)
  | 18 => exact fun a ha q => absurd q (n3 a ha).2
  | 19 => exact fun i h1 h2 => by omega
  | 20 => exact fun i h1 h2 => by omega
  | 21 =>
    intro a ha q
    rw [C8P]
    rcases (G a ha).2.2.2.2.2.2.2.2.1 q with g | ⟨i, i1, i2⟩
    · exact Or.inl g
    · exact Or.inr ⟨i, i1, i2, fun z => by omega⟩
  | 22 =>
    intro i k a b y y' hik hk hi ha8 hkk hb8 hs
    rw [mrow 30 (by omega)] at hi
    exact absurd hs (n3 a (dnn i a (by omega) hi ha8)).2
  | 23 =>
    intro k b p hk hb hb8 hp hp8
    rw [mrow 30 (by omega)] at hb ⊢
    rw [mrow 19 (by omega)] at hp
    exact h 23 k b p (by omega) hb hb8 hp hp8
  | 24 =>
    intro k hk
    have z : ∀ m, m ≤ n → cntK M' k m = 0 := by
      intro m
      induction m with
      | zero => intro _; rfl
      | succ m ih => intro hm; simp only [cntK]; rw [ih (by omega), if_neg (fun q => (n3 m (by omega)).1 q.1)]
    show cntK M' k n ≤ 9
    rw [z n (Nat.le_refl _)]; omega
  | 25 =>
    intro a h1 h2
    obtain ⟨y1, y2, y3, y4⟩ := mnew a h1 h2
    rw [y1, y2, y3, y4]; exact h 25 a h1 h2
  | k + 26 => trivial
