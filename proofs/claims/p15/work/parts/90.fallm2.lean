theorem VX_s {M : MS} {E i a x : Nat} (hx : x < 80) (hE : E ≤ i) (hk : M.2.1 33 (4 * i) = 2) (ha : M.2.1 33 (4 * i + 1) = nI x) : VX M E (i + 1) a ↔ VX M E i a ∨ M.2.1 19 a = nI x := by
  constructor
  · rintro ⟨p, h1, h2, h3⟩
    rcases LX_s.mp h2 with q | ⟨_, _, q⟩
    · exact Or.inl ⟨p, h1, q, h3⟩
    · have := (nIeq (a := x) (b := p) (by omega) (by omega)).mp (ha.symm.trans q)
      subst this; exact Or.inr h3
  · rintro (⟨p, h1, h2, h3⟩ | h3)
    · exact ⟨p, h1, LX_s.mpr (Or.inl h2), h3⟩
    · exact ⟨x, hx, LX_s.mpr (Or.inr ⟨hE, hk, ha⟩), h3⟩
theorem VX_n {M : MS} {E i a : Nat} (hk : M.2.1 33 (4 * i) ≠ 2) : VX M E (i + 1) a ↔ VX M E i a := by
  constructor
  · rintro ⟨p, h1, h2, h3⟩
    rcases LX_s.mp h2 with q | ⟨_, q, _⟩
    · exact ⟨p, h1, q, h3⟩
    · exact absurd q hk
  · rintro ⟨p, h1, h2, h3⟩
    exact ⟨p, h1, LX_s.mpr (Or.inl h2), h3⟩
theorem nIx {a x : Nat} (ha : a < 80) (hx : x < 80) : nI x = nI a ↔ a = x := by
  rw [nIeq (a := x) (b := a) (by omega) (by omega)]; exact ⟨fun h => h.symm, fun h => h.symm⟩
/-- the second phase -/
theorem m_fall_93 {Z : Nat → Prop} {M0 : MS} {n d E e : Nat} (hn80 : n ≤ 80) (hn : M0.1 7 = nI n) (h31 : M0.1 31 = nI e) (hd80 : d ≤ 80) (hl : 4 * e ≤ M0.2.2) (hl2 : M0.2.2 ≤ 2048000) (hent : ∀ i, i < e → ∃ x, x < 80 ∧ M0.2.1 33 (4 * i + 1) = nI x) (hZ : ∀ i x, E ≤ i → i < e → (M0.2.1 33 (4 * i) = 2 ∨ M0.2.1 33 (4 * i) = 3) → M0.2.1 33 (4 * i + 1) = nI x → x < 80 → Z x) (hv : ∀ a, a < n → M0.2.1 21 a = 0 ∨ M0.2.1 21 a = 1) (hcp : cp (fun j => E ≤ j ∧ M0.2.1 33 (4 * j) = 2) e ≤ d) (k i : Nat) (M : MS) (hk : e < k + i) (hi : i ≤ e) (hE : E ≤ i) (h : F2 Z M0 M n d E i) : ∃ M', f_X4_fall_93 k (nI E) (nI (cp (fun j => E ≤ j ∧ M0.2.1 33 (4 * j) = 2) i)) (nI i) M = f_X4_fall_291 3000000 (nI (cp (fun j => E ≤ j ∧ M0.2.1 33 (4 * j) = 2) e)) 0 (mI M' 31 (nI E)) ∧ F2 Z M0 M' n d E e := by
  induction k generalizing i M with
  | zero => omega
  | succ k ih =>
    obtain ⟨g1, g2, g3, g4, g5, g6, g7, g8⟩ := id h
    have c31 : M.1 31 = nI e := by rw [g2]; exact h31
    have c33 : M.2.1 33 = M0.2.1 33 := g1.1 33 (by omega)
    have c22 : M.2.2 = M0.2.2 := g1.2.1
    rw [f_X4_fall_93, c31]
    by_cases h0 : e ≤ i
    · rw [if_pos (np_ h0 (by omega) (by omega))]
      have : i = e := by omega
      subst this
      exact ⟨M, rfl, h⟩
    · obtain ⟨x, hx, ex⟩ := hent i (by omega)
      have hm := cp_mono (P := fun j => E ≤ j ∧ M0.2.1 33 (4 * j) = 2) (show i + 1 ≤ e by omega)
      rw [if_neg (nn h0 (by omega) (by omega)), ix40, n1, nI_add, c22, if_pos (ck (4 * i + 1) M0.2.2 (by omega)), if_pos (ck (4 * i) M0.2.2 (by omega)), nc (4 * i) (by omega), nc (4 * i + 1) (by omega), c33, ex]
      -- clear the act
      have body : ∀ (Ma : MS) (w : Nat) (s : Int32), (s = 1 ∧ M0.2.1 33 (4 * i) = 2) ∨ (s = 0 ∧ M0.2.1 33 (4 * i) = 3) → Ma.2.1 21 = M.2.1 21 → Ma.2.1 18 = M.2.1 18 → Ma.2.1 11 = M.2.1 11 → Ma.2.1 17 = M.2.1 17 → TF Z M0 Ma → Ma.1 = upd M0.1 29 (nI (d - cp (fun j => E ≤ j ∧ M0.2.1 33 (4 * j) = 2) (i + 1))) → (∀ a, a < n → (Ma.2.1 22 a = 0 ∨ Ma.2.1 22 a = 1) ∧ (Ma.2.1 22 a = 1 ↔ (M0.2.1 11 a = 1 ∨ LX M0 E (i + 1) a))) → w = cp (fun j => E ≤ j ∧ M0.2.1 33 (4 * j) = 2) (i + 1) → ∃ M', f_X4_fall_196 (fun v2 v3 v4 M => f_X4_fall_93 k v2 v3 v4 M) (nI E) (nI w) (nI i) (nI x) s Ma = f_X4_fall_291 3000000 (nI (cp (fun j => E ≤ j ∧ M0.2.1 33 (4 * j) = 2) e)) 0 (mI M' 31 (nI E)) ∧ F2 Z M0 M' n d E e := by
        intro Ma w s hs e21 e18 e11 e17 eT e1 e22 ew
        have zx : Z x := hZ i x hE (by omega) (by rcases hs with q | q; exact Or.inl q.2; exact Or.inr q.2) ex hx
        unfold f_X4_fall_196
        rw [m_clears hx, k_bs, if_pos (ck x 80 (by omega)), nc x (by omega), k_ls, k_ls]
        generalize hMb : mA (mA (mClr x Ma) 11 x 0) 17 x (-1) = Mb
        have bT : TF Z M0 Mb := by rw [← hMb]; exact TF_A (TF_A (TF_clr eT zx) (by omega)) (by omega)
        have b1 : Mb.1 = Ma.1 := by rw [← hMb]; rfl
        have br : ∀ j, j = 18 ∨ j = 21 ∨ j = 22 → Mb.2.1 j = Ma.2.1 j := fun j hj => by rw [← hMb, mA_ne (by omega), mA_ne (by omega), mClr_r (by omega)]
        have b11 : ∀ a, Mb.2.1 11 a = if a = x then 0 else M.2.1 11 a := fun a => by rw [← hMb, mA_ne (by omega), mA_at, mClr_r (by omega), e11]
        have b17 : ∀ a, Mb.2.1 17 a = if a = x then -1 else M.2.1 17 a := fun a => by rw [← hMb, mA_at, mA_ne (by omega), mClr_r (by omega), e17]
        have f11 : ∀ a, a < 80 → ((M0.2.1 11 a = 1 ∨ LX M0 E (i + 1) a ∨ SX M0 E (i + 1) a) → Mb.2.1 11 a = 0) ∧ (¬ (M0.2.1 11 a = 1 ∨ LX M0 E (i + 1) a ∨ SX M0 E (i + 1) a) → Mb.2.1 11 a = M0.2.1 11 a) := fun a ha => by
          rw [b11 a, LX_s, SX_s, ex, nIx ha hx]
          by_cases z : a = x
          · rw [if_pos z]
            refine ⟨fun _ => rfl, fun q => absurd ?_ q⟩
            rcases hs with q | q
            · exact Or.inr (Or.inl (Or.inr ⟨hE, q.2, z⟩))
            · exact Or.inr (Or.inr (Or.inr ⟨hE, q.2, z⟩))
          · rw [if_neg z]
            refine ⟨fun q => (g4 a ha).1 ?_, fun q => (g4 a ha).2 (fun y => q ?_)⟩
            · rcases q with q | (q | q) | (q | q)
              · exact Or.inl q
              · exact Or.inr (Or.inl q)
              · exact absurd q.2.2 z
              · exact Or.inr (Or.inr q)
              · exact absurd q.2.2 z
            · rcases y with y | y | y
              · exact Or.inl y
              · exact Or.inr (Or.inl (Or.inl y))
              · exact Or.inr (Or.inr (Or.inl y))
        have f17 : ∀ a, a < 80 → ((LX M0 E (i + 1) a ∨ SX M0 E (i + 1) a) → Mb.2.1 17 a = -1) ∧ (¬ (LX M0 E (i + 1) a ∨ SX M0 E (i + 1) a) → Mb.2.1 17 a = M0.2.1 17 a) := fun a ha => by
          rw [b17 a, LX_s, SX_s, ex, nIx ha hx]
          by_cases z : a = x
          · rw [if_pos z]
            refine ⟨fun _ => rfl, fun q => absurd ?_ q⟩
            rcases hs with q | q
            · exact Or.inl (Or.inr ⟨hE, q.2, z⟩)
            · exact Or.inr (Or.inr ⟨hE, q.2, z⟩)
          · rw [if_neg z]
            refine ⟨fun q => (g5 a ha).1 ?_, fun q => (g5 a ha).2 (fun y => q ?_)⟩
            · rcases q with (q | q) | (q | q)
              · exact Or.inl q
              · exact absurd q.2.2 z
              · exact Or.inr q
              · exact absurd q.2.2 z
            · rcases y with y | y
              · exact Or.inl (Or.inl y)
              · exact Or.inr (Or.inl y)
        have cn : Mb.1 7 = nI n := by rw [b1, e1]; exact hn
        rcases hs with ⟨s1, hk2⟩ | ⟨s0, hk3⟩
        · rw [s1]
          obtain ⟨f, q1, q2, q3⟩ := m_fall_223 (K93 := fun v2 v3 v4 M => f_X4_fall_93 k v2 v3 v4 M) (v2 := nI E) (v3 := nI w) (v4 := nI i) (p := x) hn80 Mb cn 3000000 0 (Mb.2.1 21) (by omega) (by omega) (fun a ha => by omega) (fun _ _ => rfl)
          rw [mR_id] at q1
          rw [show f_X4_fall_223 (fun v2 v3 v4 M => f_X4_fall_93 k v2 v3 v4 M) 3000000 (nI E) (nI w) (nI i) (nI x) 1 0 Mb = _ from q1, f_X4_fall_277, n1, nI_add, ew]
          have r19 : Mb.2.1 19 = M0.2.1 19 := bT.1 19 (by omega)
          have r21 : Mb.2.1 21 = M.2.1 21 := (br 21 (by omega)).trans e21
          refine ih (i + 1) _ (by omega) (by omega) (by omega) ⟨TF_R bT (by omega), by show Mb.1 = _; rw [b1]; exact e1, by rw [mR_get, if_neg (by omega), br 18 (by omega), e18]; exact g3, f11, f17, fun a ha => by rw [mR_get, if_neg (by omega), br 22 (by omega)]; exact e22 a ha, fun a ha => ?_, fun a ha => ?_⟩
          · show (f a = 0 ∨ f a = 1) ∧ (f a = 1 ↔ _)
            refine ⟨(q2 a ha).1, (q2 a ha).2.trans ?_⟩
            rw [VX_s hx hE hk2 ex, r19, r21, ← or_assoc, ← (g7 a ha).2]
            constructor
            · rintro (y | y)
              · exact Or.inl ((g7 a ha).1.resolve_left y)
              · exact Or.inr y
            · rintro (y | y)
              · left; rw [y]; decide
              · exact Or.inr y
          · show f a = _
            rw [q3 a ha, r21]; exact g8 a ha
        · rw [s0]
          have ex0 : f_X4_fall_223 (fun v2 v3 v4 M => f_X4_fall_93 k v2 v3 v4 M) 3000000 (nI E) (nI w) (nI i) (nI x) 0 0 Mb = f_X4_fall_277 (fun v2 v3 v4 M => f_X4_fall_93 k v2 v3 v4 M) (nI E) (nI w) (nI i) Mb := by
            rw [f_X4_fall_223, cn]
            by_cases y : nI n ≤ 0
            · rw [if_pos y]
            · rw [if_neg y, if_pos rfl]
          rw [ex0, f_X4_fall_277, n1, nI_add, ew]
          have nk2 : M0.2.1 33 (4 * i) ≠ 2 := by rw [hk3]; decide
          refine ih (i + 1) _ (by omega) (by omega) (by omega) ⟨bT, by rw [b1]; exact e1, by rw [br 18 (by omega), e18]; exact g3, f11, f17, fun a ha => by rw [br 22 (by omega)]; exact e22 a ha, fun a ha => ?_, fun a ha => by rw [br 21 (by omega), e21]; exact g8 a ha⟩
          rw [br 21 (by omega), e21, VX_n nk2]; exact g7 a ha
      by_cases k2 : M0.2.1 33 (4 * i) = 2
      · have c1 := cp_y (P := fun j => E ≤ j ∧ M0.2.1 33 (4 * j) = 2) (n := i) ⟨hE, k2⟩
        have e29 : M.1 29 = nI (d - cp (fun j => E ≤ j ∧ M0.2.1 33 (4 * j) = 2) i) := by rw [g2]; rfl
        obtain ⟨y, hy⟩ : ∃ y, d - cp (fun j => E ≤ j ∧ M0.2.1 33 (4 * j) = 2) i = y + 1 := ⟨d - cp (fun j => E ≤ j ∧ M0.2.1 33 (4 * j) = 2) i - 1, by omega⟩
        rw [if_pos (show M0.2.1 33 (4 * i) = 2 from k2), e29, hy, show nI (y + 1) - nI 1 = nI y from nI_pred y, k_ls, if_pos (ck x 80 (by omega)), nc x (by omega), k_ls, nI_add]
        unfold f_X4_fall_149 f_X4_fall_178
        rw [ix40, show (mA (mI M 29 (nI y)) 22 x (nI 1)).2.2 = M0.2.2 from c22, if_pos (ck (4 * i) M0.2.2 (by omega)), nc (4 * i) (by omega), show (mA (mI M 29 (nI y)) 22 x (nI 1)).2.1 33 = M0.2.1 33 from by rw [mA_ne (by omega)]; exact c33, if_pos k2, if_pos (ck (4 * i) M0.2.2 (by omega)), if_pos k2]
        refine body _ _ _ (Or.inl ⟨rfl, k2⟩) (by rw [mA_ne (by omega)]; rfl) (by rw [mA_ne (by omega)]; rfl) (by rw [mA_ne (by omega)]; rfl) (by rw [mA_ne (by omega)]; rfl) (TF_A (TF_I g1) (by omega)) ?_ (fun a ha => ?_) c1.symm
        · show upd M.1 29 (nI y) = _
          rw [g2, c1, show d - (cp (fun j => E ≤ j ∧ M0.2.1 33 (4 * j) = 2) i + 1) = y by omega]
          funext z; simp only [upd_get]; split <;> rfl
        · rw [mA_at, LX_s, ex, nIx (by omega) hx]
          by_cases z : a = x
          · rw [if_pos z]; exact ⟨Or.inr rfl, fun _ => Or.inr (Or.inr ⟨hE, k2, z⟩), fun _ => rfl⟩
          · rw [if_neg z]
            have := g6 a ha
            refine ⟨this.1, this.2.trans ?_⟩
            constructor
            · rintro (y | y)
              · exact Or.inl y
              · exact Or.inr (Or.inl y)
            · rintro (y | y | y)
              · exact Or.inl y
              · exact Or.inr y
              · exact absurd y.2.2 z
      · have c1 := cp_n (P := fun j => E ≤ j ∧ M0.2.1 33 (4 * j) = 2) (n := i) (fun q => k2 q.2)
        rw [if_neg (show ¬ M0.2.1 33 (4 * i) = 2 from k2)]
        unfold f_X4_fall_149 f_X4_fall_178
        rw [ix40, c22, if_pos (ck (4 * i) M0.2.2 (by omega)), nc (4 * i) (by omega), c33, if_neg k2]
        have l22 : ∀ a, a < n → (M.2.1 22 a = 0 ∨ M.2.1 22 a = 1) ∧ (M.2.1 22 a = 1 ↔ (M0.2.1 11 a = 1 ∨ LX M0 E (i + 1) a)) := fun a ha => by
          refine ⟨(g6 a ha).1, (g6 a ha).2.trans ?_⟩
          rw [LX_s]
          constructor
          · rintro (y | y)
            · exact Or.inl y
            · exact Or.inr (Or.inl y)
          · rintro (y | y | y)
            · exact Or.inl y
            · exact Or.inr y
            · exact absurd y.2.1 k2
        by_cases k3 : M0.2.1 33 (4 * i) = 3
        · rw [if_pos k3, if_pos (ck (4 * i) M0.2.2 (by omega)), if_neg k2]
          exact body M _ _ (Or.inr ⟨rfl, k3⟩) rfl rfl rfl rfl g1 (by rw [c1]; exact g2) l22 c1.symm
        · rw [if_neg k3, f_X4_fall_277, n1, nI_add, ← c1]
          have sx : ∀ a, SX M0 E (i + 1) a ↔ SX M0 E i a := fun a => by
            rw [SX_s]; exact ⟨fun q => q.elim id (fun y => absurd y.2.1 k3), Or.inl⟩
          have lx : ∀ a, LX M0 E (i + 1) a ↔ LX M0 E i a := fun a => by
            rw [LX_s]; exact ⟨fun q => q.elim id (fun y => absurd y.2.1 k2), Or.inl⟩
          refine ih (i + 1) M (by omega) (by omega) (by omega) ⟨g1, by rw [c1]; exact g2, g3, fun a ha => by rw [lx, sx]; exact g4 a ha, fun a ha => by rw [lx, sx]; exact g5 a ha, l22, fun a ha => by rw [VX_n k2]; exact g7 a ha, g8⟩
