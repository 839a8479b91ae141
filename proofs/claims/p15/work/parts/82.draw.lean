/-! ===== rings: who waits for whom ===== -/
theorem edge_iff {M : MS} {x o s k : Nat} (hs : M.2.1 11 x = 1) (h16 : M.2.1 16 x = 1) (hs12 : s < 12) (h14 : M.2.1 14 x = nI s) (h13 : M.2.1 13 (12 * x + s) = nI k) (hk : k < 2147483648) : waitsP M x o ↔ (k / 10000 ≠ 6 ∧ barsP M o x (k / 100 % 100) (if k / 10000 = 3 then 1 else 0)) := by
  have e1 : stp M x = nI k := by unfold stp; rw [h14, nc s (by omega), h13]
  have e2 : cel (nI k) = nI (k / 100 % 100) := cel_nI hk
  unfold waitsP
  rw [e1, e2, op_nI hk, nc (k / 100 % 100) (by omega), h16]
  have q6 : nI (k / 10000) = (6 : Int32) ↔ k / 10000 = 6 := nIeq (a := k / 10000) (b := 6) (by omega) (by omega)
  have q3 : nI (k / 10000) = (3 : Int32) ↔ k / 10000 = 3 := nIeq (a := k / 10000) (b := 3) (by omega) (by omega)
  have w : (if nI (k / 10000) = 3 then (1 : Int32) else 0) = (if k / 10000 = 3 then 1 else 0) := by
    by_cases z : k / 10000 = 3
    · rw [if_pos z, if_pos (q3.mpr z)]
    · rw [if_neg z, if_neg (fun y => z (q3.mp y))]
  rw [w]
  exact ⟨fun ⟨_, _, a3, a4⟩ => ⟨fun y => a3 (q6.mpr y), a4⟩, fun ⟨a3, a4⟩ => ⟨hs, by decide, fun y => a3 (q6.mp y), a4⟩⟩
theorem shl_1 {j : Nat} (hj : j < 64) : (1 : Int64) <<< ((nI j).toInt64 &&& 63) = lN (2 ^ j) := by
  have := wb_shl 1 hj
  rw [Nat.one_mul] at this
  exact this
theorem dw_82 {C : CS} {M : MS} {n m i x k s : Nat} {g : Nat → Nat} (K : Int32 → Int32 → CS → Option (Int32 × CS)) (hn : n ≤ 80) (hN : gN C = n) (h14 : C.1 14 = nI m) (hm : m ≤ 36) (hrun : ∀ q, q < m → C.2.1 8 q = nI (g q) ∧ g q < n) (inj : ∀ p q, p < q → q < m → g p ≠ g q) (hi : i < m) (hx : g i = x) (hk : k < 2147483648) (hc : k / 100 % 100 < 24) (c14 : gP C x 14 = nI s) (s12 : s < 12) (hst : gQ C x 4 s = nI k) (hs : ∀ o, o < n → gP C o 12 = M.2.1 11 o) (hl : ∀ o, o < n → M.2.1 11 o = 1 → ∀ c, c < 24 → gQ C o 5 c = M.2.1 23 (24 * o + c) ∧ ∃ h, h ≤ 2 ∧ M.2.1 23 (24 * o + c) = nI h) (fu j : Nat) (any : Int32) (gA : Nat → Int64) (A : Nat → Nat) (hf : m < fu + j) (hj : j ≤ m) (hg : LB gA A m) (hA : ∀ y, (A i).testBit y = true ↔ y < j ∧ barsP M (g y) x (k / 100 % 100) (if k / 10000 = 3 then 1 else 0)) : ∃ (any' : Int32) (gA' : Nat → Int64) (A' : Nat → Nat), f_X3_drawWaits_82 K fu any (nI i) x (nI j) (cLF C 30 gA) = K any' (nI (i + 1)) (cLF C 30 gA') ∧ LB gA' A' m ∧ (∀ z, z ≠ i → A' z = A z) ∧ (∀ y, (A' i).testBit y = true ↔ y < m ∧ barsP M (g y) x (k / 100 % 100) (if k / 10000 = 3 then 1 else 0)) ∧ (any' = any ∨ any' = 1) ∧ (any' = 0 → any = 0 ∧ ∀ y, j ≤ y → y < m → ¬ barsP M (g y) x (k / 100 % 100) (if k / 10000 = 3 then 1 else 0)) := by
  induction fu generalizing j any gA A with
  | zero => omega
  | succ fu ih =>
    rw [f_X3_drawWaits_82, show (cLF C 30 gA).1 14 = nI m from h14]
    by_cases h0 : m ≤ j
    · rw [if_pos (np_ h0 (by omega) (by omega)), f_X3_drawWaits_142, n1, nI_add]
      have : j = m := by omega
      subst this
      exact ⟨any, gA, A, rfl, hg, fun _ _ => rfl, hA, Or.inl rfl, fun z => ⟨z, fun y h1 h2 => by omega⟩⟩
    · rw [if_neg (nn h0 (by omega) (by omega))]
      have nx : ¬ barsP M (g j) x (k / 100 % 100) (if k / 10000 = 3 then 1 else 0) → ∃ (any' : Int32) (gA' : Nat → Int64) (A' : Nat → Nat), f_X3_drawWaits_136 K (fun v1 v2 y3 v4 C => f_X3_drawWaits_82 K fu v1 v2 y3 v4 C) any (nI i) x (nI j) (cLF C 30 gA) = K any' (nI (i + 1)) (cLF C 30 gA') ∧ LB gA' A' m ∧ (∀ z, z ≠ i → A' z = A z) ∧ (∀ y, (A' i).testBit y = true ↔ y < m ∧ barsP M (g y) x (k / 100 % 100) (if k / 10000 = 3 then 1 else 0)) ∧ (any' = any ∨ any' = 1) ∧ (any' = 0 → any = 0 ∧ ∀ y, j ≤ y → y < m → ¬ barsP M (g y) x (k / 100 % 100) (if k / 10000 = 3 then 1 else 0)) := by
        intro hno
        obtain ⟨any', gA', A', q1, q2, q3, q4, q5, q6⟩ := ih (j + 1) any gA A (by omega) (by omega) hg (fun y => (hA y).trans ⟨fun ⟨z1, z2⟩ => ⟨by omega, z2⟩, fun ⟨z1, z2⟩ => ⟨by
          by_cases e : y = j
          · subst e; exact absurd z2 hno
          · omega, z2⟩⟩)
        refine ⟨any', gA', A', by rw [f_X3_drawWaits_136, n1, nI_add]; exact q1, q2, q3, q4, q5, fun z => ⟨(q6 z).1, fun y h1 h2 => ?_⟩⟩
        by_cases e : y = j
        · subst e; exact hno
        · exact (q6 z).2 y (by omega) h2
      by_cases h1 : j = i
      · rw [if_pos (by rw [h1])]; exact nx (fun q => q.1 (by rw [h1]; exact hx))
      · obtain ⟨r1, r2⟩ := hrun j (by omega)
        have gx : g j ≠ x := by
          rw [← hx]
          by_cases z : j < i
          · exact inj j i z hi
          · exact fun e => inj i j (by omega) (by omega) e.symm
        rw [if_neg (fun q => h1 ((nIeq (by omega) (by omega)).mp q)), if_pos (ck j 36 (by omega)), nc j (by omega), show (cLF C 30 gA).2.1 8 j = nI (g j) from r1, nc (g j) (by omega), if_pos ⟨ck (g j) 80 (by omega), by show g j < gN C; omega⟩, show gP (cLF C 30 gA) x 14 = nI s from c14, if_pos (ck s 12 (by omega)), nc s (by omega), show gQ (cLF C 30 gA) x 4 s = nI k from hst]
        obtain ⟨r, e1, e2, e3⟩ := c_blocks (C := cLF C 30 gA) (M := M) (o := g j) (a := x) hk hc gx (hs _ r2) (hl _ r2)
        rw [e1, k_bs]
        by_cases hr : r = 0
        · rw [if_pos hr]; exact nx (fun q => by rw [hr] at e3; exact absurd (e3.mpr q) (by decide))
        · rw [if_neg hr]
          have hW := e3.mp (e2.resolve_left hr)
          have ad : f_X2_add (nI i) (nI j) (cLF C 30 gA) = some (0, cLF C 30 (vp_updL gA i (gA i ||| lN (2 ^ j)))) := by
            unfold f_X2_add
            rw [if_pos (ck i 36 (by omega)), nc i (by omega), k_ls, shl_1 (by omega), cL_L]
            rfl
          rw [ad, k_bs, f_X3_drawWaits_136, n1, nI_add]
          have hp : (2 : Nat) ^ j < 2 ^ 36 := wb_lt2 (by omega)
          obtain ⟨any', gA', A', q1, q2, q3, q4, q5, q6⟩ := ih (j + 1) 1 (vp_updL gA i (gA i ||| lN (2 ^ j))) (fun z => if z = i then A i ||| 2 ^ j else A z) (by omega) (by omega) (fun z hz => by
            rw [vpL_get]
            by_cases e : z = i
            · simp only [if_pos e]
              rw [(hg i hi).1, or_lN (hg i hi).2 hp]; exact ⟨rfl, or_36 (hg i hi).2 hp⟩
            · simp only [if_neg e]; exact hg z hz) (fun y => by
            simp only [if_true]
            rw [Nat.testBit_or, Nat.testBit_two_pow, Bool.or_eq_true, hA y, decide_eq_true_iff]
            constructor
            · rintro (⟨z1, z2⟩ | z)
              · exact ⟨by omega, z2⟩
              · subst z; exact ⟨by omega, hW⟩
            · rintro ⟨z1, z2⟩
              by_cases e : y = j
              · exact Or.inr e.symm
              · exact Or.inl ⟨by omega, z2⟩)
          refine ⟨any', gA', A', q1, q2, fun z hz => ?_, q4, ?_, fun z => ?_⟩
          · rw [q3 z hz]; simp only [if_neg hz]
          · rcases q5 with q | q
            · exact Or.inr q
            · exact Or.inr q
          · exact absurd (q6 z).1 (by decide)
theorem dw_15 {C : CS} {M : MS} {n t u d e kp fa m : Nat} {g : Nat → Nat} (h : ∀ i, RI C M n t u d e kp fa i) (h14 : C.1 14 = nI m) (hm : m ≤ 36) (hrun : ∀ q, q < m → C.2.1 8 q = nI (g q) ∧ g q < n) (inj : ∀ p q, p < q → q < m → g p ≠ g q) (hH : ∀ q, q < m → M.2.1 11 (g q) = 1 → HS C M t (g q)) (fu i : Nat) (any : Int32) (gA : Nat → Int64) (A : Nat → Nat) (hf : m < fu + i) (hi : i ≤ m) (hg : LB gA A m) (h01 : any = 0 ∨ any = 1) (hA1 : ∀ p, p < i → ∀ y, (A p).testBit y = true ↔ y < m ∧ waitsP M (g p) (g y)) (hA2 : ∀ p, i ≤ p → p < m → A p = 0) (hA3 : any = 0 → ∀ p, p < i → ∀ y, y < m → ¬ waitsP M (g p) (g y)) : ∃ (any' : Int32) (gA' : Nat → Int64) (A' : Nat → Nat), f_X3_drawWaits_15 fu any (nI i) (cLF C 30 gA) = some (any', cLF C 30 gA') ∧ LB gA' A' m ∧ (any' = 0 ∨ any' = 1) ∧ (∀ p, p < m → ∀ y, (A' p).testBit y = true ↔ y < m ∧ waitsP M (g p) (g y)) ∧ (any' = 0 → ∀ p, p < m → ∀ y, y < m → ¬ waitsP M (g p) (g y)) := by
  obtain ⟨b1, b2, b3, b4⟩ : M.1 7 = nI n ∧ C.1 12 = nI n ∧ gN C = n ∧ n ≤ 80 := h 0
  obtain ⟨t1, t2, t3⟩ : M.1 0 = nI t ∧ C.1 15 = nI t ∧ t ≤ 5000 := h 1
  induction fu generalizing i any gA A with
  | zero => omega
  | succ fu ih =>
    rw [f_X3_drawWaits_15, show (cLF C 30 gA).1 14 = nI m from h14]
    by_cases h0 : m ≤ i
    · rw [if_pos (np_ h0 (by omega) (by omega)), if_pos (show any &&& 1 = any by rcases h01 with rfl | rfl <;> decide)]
      have : i = m := by omega
      subst this
      exact ⟨any, gA, A, rfl, hg, h01, hA1, hA3⟩
    · obtain ⟨r1, r2⟩ := hrun i (by omega)
      rw [if_neg (nn h0 (by omega) (by omega)), if_pos (ck i 36 (by omega)), nc i (by omega), show (cLF C 30 gA).2.1 8 i = nI (g i) from r1, nc (g i) (by omega), if_pos ⟨ck (g i) 80 (by omega), by show g i < gN C; omega⟩, show gP (cLF C 30 gA) (g i) 12 = M.2.1 11 (g i) from (h 12 (g i) r2 4).1]
      have nx : (∀ y, y < m → ¬ waitsP M (g i) (g y)) → ∃ (any' : Int32) (gA' : Nat → Int64) (A' : Nat → Nat), f_X3_drawWaits_142 (fun v1 v2 C => f_X3_drawWaits_15 fu v1 v2 C) any (nI i) (cLF C 30 gA) = some (any', cLF C 30 gA') ∧ LB gA' A' m ∧ (any' = 0 ∨ any' = 1) ∧ (∀ p, p < m → ∀ y, (A' p).testBit y = true ↔ y < m ∧ waitsP M (g p) (g y)) ∧ (any' = 0 → ∀ p, p < m → ∀ y, y < m → ¬ waitsP M (g p) (g y)) := by
        intro hno
        obtain ⟨any', gA', A', q1, q2, q3, q4, q5⟩ := ih (i + 1) any gA A (by omega) (by omega) hg h01 (fun p hp y => by
          by_cases e : p = i
          · subst e
            rw [hA2 p (Nat.le_refl _) (by omega), Nat.zero_testBit]
            exact ⟨fun z => absurd z (by decide), fun ⟨z1, z2⟩ => absurd z2 (hno y z1)⟩
          · exact hA1 p (by omega) y) (fun p h1 h2 => hA2 p (by omega) h2) (fun z p hp y hy => by
          by_cases e : p = i
          · subst e; exact hno y hy
          · exact hA3 z p (by omega) y hy)
        exact ⟨any', gA', A', by rw [f_X3_drawWaits_142, n1, nI_add]; exact q1, q2, q3, q4, q5⟩
      by_cases hs : M.2.1 11 (g i) = 1
      · rw [if_pos hs, show (cLF C 30 gA).1 15 = nI t from t2]
        rcases hH i (by omega) hs with ⟨w1, w2⟩ | ⟨w1, w2, s, k, w3, w4, w5, w6, w7, w8⟩
        · rw [if_neg (show ¬ gP (cLF C 30 gA) (g i) 15 = nI t from w2)]
          exact nx (fun y _ z => z.2.1 w1)
        · rw [if_pos (show gP (cLF C 30 gA) (g i) 15 = nI t from w2)]
          obtain ⟨l, s2, q, l12, sl, qs, e14, c14, bg⟩ := BG_of (h 12 (g i) r2 6 hs)
          have ess := (nIeq (a := s) (b := s2) (by omega) (by omega)).mp (w4.symm.trans e14)
          subst ess
          have st : gQ C (g i) 4 s = nI k := by rw [(bg.2.2.2.2.2.2.1 s sl).1]; exact w5
          have has : f_X0_hasStep (g i) (cLF C 30 gA) = some (1, cLF C 30 gA) := by
            unfold f_X0_hasStep
            rw [show gP (cLF C 30 gA) (g i) 10 = nI l from bg.2.1, show gP (cLF C 30 gA) (g i) 14 = nI s from c14, if_neg (show ¬ nI s < 0 from fun z => by have := (nIlt (a := s) (b := 0) (by omega) (by omega)).mp z; omega), if_neg (nn (by omega) (by omega) (by omega))]
          rw [has, k_bs, if_neg i10, show gP (cLF C 30 gA) (g i) 14 = nI s from c14, if_pos (ck s 12 (by omega)), nc s (by omega), show gQ (cLF C 30 gA) (g i) 4 s = nI k from st, c_uses w6 w7.1]
          by_cases ho : k / 10000 = 0 ∨ k / 10000 = 3 ∨ k / 10000 = 4
          · rw [if_pos ho, if_neg i10]
            have hc := w7.2.1 ho
            obtain ⟨any2, gA2, A2, q1, q2, q3, q4, q5, q6⟩ := dw_82 (C := C) (M := M) (x := g i) (fun v1 v2 C => f_X3_drawWaits_15 fu v1 v2 C) b4 b3 h14 hm hrun inj (by omega) rfl w6 hc c14 w3 st (fun o ho => (h 12 o ho 4).1) (fun o ho hs c hc => by
              obtain ⟨l, s, q, -, -, -, -, -, -, -, -, -, -, -, -, -, -, gg, -⟩ := h 12 o ho 6 hs
              exact ⟨(gg c hc).1, (gg c hc).2.1⟩) 200 0 any gA A (by omega) (by omega) hg (fun y => by
              rw [hA2 i (Nat.le_refl _) (by omega), Nat.zero_testBit]
              exact ⟨fun z => absurd z (by decide), fun ⟨z, _⟩ => by omega⟩)
            have eo : ∀ y, waitsP M (g i) (g y) ↔ barsP M (g y) (g i) (k / 100 % 100) (if k / 10000 = 3 then 1 else 0) := fun y => (edge_iff hs w1 w3 w4 w5 w6).trans ⟨fun z => z.2, fun z => ⟨by omega, z⟩⟩
            obtain ⟨any', gA', A', z1, z2, z3, z4, z5⟩ := ih (i + 1) any2 gA2 A2 (by omega) (by omega) q2 (by rcases q5 with z | z; rw [z]; exact h01; exact Or.inr z) (fun p hp y => by
              by_cases e : p = i
              · subst e; rw [q4 y, eo]
              · rw [q3 p e]; exact hA1 p (by omega) y) (fun p h1 h2 => by rw [q3 p (by omega)]; exact hA2 p (by omega) h2) (fun z p hp y hy => by
              by_cases e : p = i
              · subst e; exact fun w => (q6 z).2 y (by omega) hy ((eo y).mp w)
              · exact hA3 (q6 z).1 p (by omega) y hy)
            refine ⟨any', gA', A', ?_, z2, z3, z4, z5⟩
            rw [show f_X3_drawWaits_82 (fun v1 v2 C => f_X3_drawWaits_15 fu v1 v2 C) 200 any (nI i) (g i) 0 (cLF C 30 gA) = _ from q1]
            exact z1
          · rw [if_neg ho, if_pos rfl]
            refine nx (fun y _ z => ?_)
            have := ((edge_iff hs w1 w3 w4 w5 w6).mp z).1
            omega
      · rw [if_neg hs]; exact nx (fun y _ z => hs z.1)
theorem draw_same {C : CS} {M : MS} {n t u d e kp fa m : Nat} {g : Nat → Nat} (h : ∀ i, RI C M n t u d e kp fa i) (h14 : C.1 14 = nI m) (hm : m ≤ 36) (hrun : ∀ q, q < m → C.2.1 8 q = nI (g q) ∧ g q < n) (inj : ∀ p q, p < q → q < m → g p ≠ g q) (hH : ∀ q, q < m → M.2.1 11 (g q) = 1 → HS C M t (g q)) : ∃ (any : Int32) (gA : Nat → Int64) (A : Nat → Nat), f_X3_drawWaits C = some (any, cLF (cN C 32 (nI m)) 30 gA) ∧ LB gA A m ∧ (any = 0 ∨ any = 1) ∧ (∀ p, p < m → ∀ y, (A p).testBit y = true ↔ y < m ∧ waitsP M (g p) (g y)) ∧ (any = 0 → ∀ p, p < m → ∀ y, y < m → ¬ waitsP M (g p) (g y)) := by
  unfold f_X3_drawWaits f_X2_clear
  rw [h14, if_neg (show ¬ (36 : Int32) < nI m from fun z => by have := (nIlt (a := 36) (b := m) (by omega) (by omega)).mp z; omega), k_ls, k_ls, k_bs]
  exact dw_15 (C := cN C 32 (nI m)) (M := M) (RI_fr (C := C) (M := M) (fun k h1 h2 => by rw [cN_1, if_neg h2]) rfl rfl rfl rfl rfl rfl (fun _ _ _ => rfl) (fun _ _ => rfl) h) h14 hm hrun inj hH 200 0 0 _ (fun _ => 0) (by omega) (by omega) (fun i hi => ⟨by simp only [k_filL]; rw [if_pos (by omega)]; rfl, by show (0 : Nat) < 2 ^ 36; decide⟩) (Or.inl rfl) (fun p hp => by omega) (fun _ _ _ => rfl) (fun _ p hp => by omega)
