theorem cP_Pa (C : CS) (a k j : Nat) (v : Int32) : gP (cP C a k v) a j = if j = k then v else gP C a j := by
  rw [cP_P]
  by_cases q : j = k
  · rw [if_pos ⟨rfl, q⟩, if_pos q]
  · rw [if_neg (fun x => q x.2), if_neg q]
theorem mA_ne {M : MS} {k j i : Nat} {v : Int32} (h : j ≠ k) : (mA M k i v).2.1 j = M.2.1 j := by rw [mA_R, mR_get, if_neg h]
theorem mA_eq {M : MS} {k i : Nat} {v : Int32} : (mA M k i v).2.1 k = upd (M.2.1 k) i v := by rw [mA_R, mR_get, if_pos rfl]
theorem FX_rf (a : Nat) (C : CS) (M : MS) : FX a C C M M := ⟨fun _ _ => rfl, fun _ _ => rfl⟩
theorem FX_tr {a : Nat} {C C1 C2 : CS} {M M1 M2 : MS} (h1 : FX a C C1 M M1) (h2 : FX a C1 C2 M1 M2) : FX a C C2 M M2 := ⟨fun j hj => (h2.1 j hj).trans (h1.1 j hj), fun j hj => (h2.2 j hj).trans (h1.2 j hj)⟩
theorem FX_P {a k : Nat} {C : CS} {M : MS} {v : Int32} (hk : k = 10 ∨ k = 11 ∨ k = 13 ∨ k = 14) : FX a C (cP C a k v) M M := ⟨fun j hj => by rw [cP_Pa, if_neg (by omega)], fun _ _ => rfl⟩
theorem FX_Q {a k : Nat} {C : CS} {M : MS} {f : Nat → Int32} : FX a C (cQF C a k f) M M := ⟨fun j hj => rfl, fun _ _ => rfl⟩
theorem FX_M {a k i : Nat} {C : CS} {M : MS} {v : Int32} (hk : k = 13 ∨ k = 15 ∨ k = 16 ∨ k = 23 ∨ k = 24 ∨ k = 25 ∨ k = 26 ∨ k = 27 ∨ k = 28) : FX a C C M (mA M k i v) := ⟨fun _ _ => rfl, fun j hj => by rw [mA_ne (by omega)]⟩
theorem PR_mk {a k : Nat} {C : CS} {M : MS} {n t u d e kp fa l s : Nat} (h : ∀ i, RI C M n t u d e kp fa i) (ha : a < n) (hs : M.2.1 11 a = 1) (r : Int32) (C2 : CS) (M2 : MS) (v q' : Nat) (hc : f_X3_perform (nI a) (nI k) (cP C a 14 (nI (s + 1))) = some (r, C2)) (hm : f_X4_does_50 (nI a) (nI (k / 10000)) (nI (k / 100 % 100)) (nI (k % 100)) 0 (nI a) M = (if r = 0 then f_X4_does_371 (nI a) M2 else f_X4_does_355 (nI a) (nI v) M2)) (hC : CA a C C2) (hM : MA a M M2) (hv : v ≤ 99) (hF : FX a C C2 M M2) (h14 : gP C2 a 14 = nI (s + 1 + v)) (h16 : M2.2.1 16 a = 0) (hr : r = 0 ∨ r = 1) (hB : r = 1 → BGx C2 M2 a l q' ∧ q' ≤ s + 1) : PR a k C M n t u d e kp fa l s :=
  ⟨r, C2, M2, v, e, q', hc, hm, RIn_stay (RIn_of h) ha hC hM hs (by rw [hF.2 11 (by omega)]; exact hs), ⟨Nat.le_refl _, by omega⟩, fun _ => rfl, CX_A hC, MX_A hM, hv, hF, h14, h16, hr, hB⟩
/-- a load: it fails out of bounds -/
theorem PR_ld {a k : Nat} {C : CS} {M : MS} {n t u d e kp fa l s q : Nat} (h : ∀ i, RI C M n t u d e kp fa i) (ha : a < n) (hs : M.2.1 11 a = 1) (hq : q ≤ s) (Cp : CS) (Mp : MS) (v : Int32) (hC : CA a C Cp) (hM : MA a M Mp) (hF : FX a C Cp M Mp) (h14 : gP Cp a 14 = nI (s + 1)) (h16 : Mp.2.1 16 a = 0) (hB : BGx Cp Mp a l q) (hc : f_X3_perform (nI a) (nI k) (cP C a 14 (nI (s + 1))) = k_bind (f_X0_load a v Cp) fun r8 C8 => (if r8 &&& 1 = r8 then some (r8, C8) else none)) (hm : f_X4_does_50 (nI a) (nI (k / 10000)) (nI (k / 100 % 100)) (nI (k % 100)) 0 (nI a) M = f_X4_does_355 (nI a) 0 (mA Mp 15 a v)) : PR a k C M n t u d e kp fa l s := by
  have n80 : n ≤ 80 := (h 0 : M.1 7 = nI n ∧ C.1 12 = nI n ∧ gN C = n ∧ n ≤ 80).2.2.2
  have e15 : (mA Mp 15 a v).2.1 15 a = v := pk_us
  rw [m_355s (by omega), e15] at hm
  rw [c_load] at hc
  by_cases hv : -1000000 ≤ v.toInt ∧ v.toInt ≤ 1000000
  · rw [if_pos hv, k_bs, if_pos (by decide)] at hc
    rw [if_pos hv] at hm
    exact PR_mk h ha hs 1 (cP Cp a 13 v) (mA Mp 15 a v) 0 q hc hm (CA_tr hC CA_P) (MA_tr hM (MA_a (by omega))) (by omega) (FX_tr hF (FX_tr (FX_P (by omega)) (FX_M (by omega)))) (by rw [cP_Pa, if_neg (by omega)]; exact h14) (by rw [mA_ne (by omega)]; exact h16) (Or.inr rfl) (fun _ => ⟨BG_reg hB hv, by omega⟩)
  · rw [if_neg hv, k_bs, if_pos (by decide)] at hc
    rw [if_neg hv] at hm
    exact PR_mk h ha hs 0 Cp (mA Mp 15 a v) 0 q hc hm hC (MA_tr hM (MA_a (by omega))) (by omega) (FX_tr hF (FX_M (by omega))) h14 (by rw [mA_ne (by omega)]; exact h16) (Or.inl rfl) (fun q => absurd q (by decide))
theorem w50 : ∀ b, b < 100 → (if (0 : Int32) < nI b - 50 then (0 : Int32) else nI b - 50) = if 50 ≤ b then 0 else nI b - 50 := by decide +kernel
/-- the class's switch -/
theorem c_perf {C : CS} {a k : Nat} (ha : a < 80) (hN : a < gN C) (hk : k < 2147483648) {j : Nat} (hj : k / 10000 = j) : (f_X3_opOf (nI k)).toInt = ((j : Nat) : Int) := by
  unfold f_X3_opOf
  rw [op_nI hk, hj, nI_toInt (by omega)]
theorem perform_same {a k : Nat} {C : CS} {M : MS} {n t u d e kp fa l s q : Nat} (h : ∀ i, RI C M n t u d e kp fa i) (ha : a < n) (hs : M.2.1 11 a = 1) (hl : l ≤ 12) (hsl : s < l) (hq : q ≤ s) (h14 : M.2.1 14 a = nI s) (h14' : gP C a 14 = nI s) (hB0 : BGx C M a l q) (hk : k < 2147483648) (hsk : sk k) (hb : e < 512000) : PR a k C M n t u d e kp fa l s := by
  obtain ⟨b1, b2, b3, b4⟩ : M.1 7 = nI n ∧ C.1 12 = nI n ∧ gN C = n ∧ n ≤ 80 := h 0
  obtain ⟨s1, s2, s3⟩ := hsk
  have a80 : a < 80 := by omega
  generalize hC1 : cP C a 14 (nI (s + 1)) = C1
  generalize hM5 : mA M 16 a 0 = M5
  have cC : CA a C C1 := by rw [← hC1]; exact CA_P
  have cM : MA a M M5 := by rw [← hM5]; exact MA_a (by omega)
  have cF : FX a C C1 M M5 := by rw [← hC1, ← hM5]; exact FX_tr (FX_P (by omega)) (FX_M (by omega))
  have c14 : gP C1 a 14 = nI (s + 1) := by rw [← hC1, cP_Pa, if_pos rfl]
  have c16 : M5.2.1 16 a = 0 := by rw [← hM5]; exact pk_us
  have hB : BGx C1 M5 a l q := by
    refine BG_c hB0 (fun j hj => by rw [← hC1, cP_Pa, if_neg (by omega)]) (by rw [← hC1]; rfl) (fun j hj => by rw [← hM5, mA_ne (by omega)])
  obtain ⟨g1, g2, g3, g4, g5, g6, g7, g8, g9, g10⟩ := id hB
  have hN : a < gN C1 := by rw [← hC1]; show a < gN C; omega
  have hv4 : ∀ c, c < 24 → C1.2.1 4 c = M5.2.1 1 c := fun c hc => by
    rw [← hC1, ← hM5, mA_ne (by omega)]; exact (h 10 c hc).1
  have hm0 := m_does_50 (M := M) (a := a) (o := k / 10000) (c := k / 100 % 100) (b := k % 100) a80
  rw [hM5] at hm0
  simp only [] at hm0
  have hh : k / 10000 = 0 ∨ k / 10000 = 1 ∨ k / 10000 = 2 ∨ k / 10000 = 3 ∨ k / 10000 = 4 ∨ k / 10000 = 5 ∨ k / 10000 = 6 ∨ k / 10000 = 7 ∨ k / 10000 = 8 := by omega
  have hp0 : f_X3_perform (nI a) (nI k) C1 = f_X3_perform (nI a) (nI k) C1 := rfl
  conv at hp0 => rhs; unfold f_X3_perform
  rw [if_pos ⟨ck a 80 (by omega), by rw [nc a (by omega)]; exact hN⟩, nc a (by omega)] at hp0
  have eA : f_X3_aOf (nI k) = nI (k / 100 % 100) := cel_nI hk
  have eB : f_X3_bOf (nI k) = nI (k % 100) := b_nI hk
  rw [eA, eB] at hp0
  -- READ and SUM: the lock and what is seen
  have rd : ∀ w : Int32, k / 100 % 100 < 24 → (∀ (Cp : CS) (x : Int32), f_X0_lockToRead a (nI (k / 100 % 100)) C1 = some (0, Cp) → f_X3_seenBy a (nI (k / 100 % 100)) Cp = some (x, Cp) → f_X3_perform (nI a) (nI k) C1 = k_bind (f_X0_load a (x + w) Cp) fun r8 C8 => (if r8 &&& 1 = r8 then some (r8, C8) else none)) → (∀ x : Int32, f_X4_seen (nI a) (nI (k / 100 % 100)) M5 = some (x, M5) → f_X4_does_50 (nI a) (nI (k / 10000)) (nI (k / 100 % 100)) (nI (k % 100)) 0 (nI a) M = (if (mA M5 15 a (x + w)).2.1 23 (24 * a + k / 100 % 100) = 0 then f_X4_does_355 (nI a) 0 (mA (mA M5 15 a (x + w)) 23 (24 * a + k / 100 % 100) 1) else f_X4_does_355 (nI a) 0 (mA M5 15 a (x + w)))) → PR a k C M n t u d e kp fa l s := by
    intro w hc hp hm
    have sn := m_seen (M := M5) a80 hc
    obtain ⟨y1, ⟨y, yh, y2⟩, y3⟩ := g9 (k / 100 % 100) hc
    have hm := hm _ sn
    have e23 : ∀ z : Int32, (mA M5 15 a z).2.1 23 = M5.2.1 23 := fun z => mA_ne (by omega)
    rw [e23] at hm
    have seenC : ∀ Cp : CS, Cp.2.1 = C1.2.1 → gQ Cp a 6 = gQ C1 a 6 → (gQ Cp a 5 (k / 100 % 100) = 2 ↔ M5.2.1 23 (24 * a + k / 100 % 100) = 2) → f_X3_seenBy a (nI (k / 100 % 100)) Cp = some ((if M5.2.1 23 (24 * a + k / 100 % 100) = 2 then M5.2.1 24 (24 * a + k / 100 % 100) else M5.2.1 1 (k / 100 % 100)), Cp) := by
      intro Cp q1 q2 q3
      unfold f_X3_seenBy f_X0_valueAfter
      rw [if_pos (ck (k / 100 % 100) 32 (by omega)), nc (k / 100 % 100) (by omega), if_neg (show ¬ 24 ≤ nI (k / 100 % 100) from nn (a := 24) (by omega) (by omega) (by omega)), if_pos (ck (k / 100 % 100) 24 (by omega)), q1, q2, hv4 _ hc]
      by_cases z : M5.2.1 23 (24 * a + k / 100 % 100) = 2
      · rw [if_pos (q3.mpr z), if_pos z, k_bs, y3 z]
      · rw [if_neg (fun x => z (q3.mp x)), if_neg z, k_bs]
    by_cases z0 : M5.2.1 23 (24 * a + k / 100 % 100) = 0
    · rw [if_pos z0] at hm
      have lk : f_X0_lockToRead a (nI (k / 100 % 100)) C1 = some (0, cQF C1 a 5 (upd (gQ C1 a 5) (k / 100 % 100) 1)) := by
        unfold f_X0_lockToRead
        rw [if_pos (ck (k / 100 % 100) 24 (by omega)), nc (k / 100 % 100) (by omega), y1, if_pos z0, k_ls]
      have sc := seenC (cQF C1 a 5 (upd (gQ C1 a 5) (k / 100 % 100) 1)) rfl (by rw [cQ_Q, if_neg (by omega)]) (by rw [cQ_Q, if_pos ⟨rfl, rfl⟩, pk_us, z0]; decide)
      have hp := hp _ _ lk sc
      refine PR_ld h ha hs hq (cQF C1 a 5 (upd (gQ C1 a 5) (k / 100 % 100) 1)) (mA M5 23 (24 * a + k / 100 % 100) 1) _ (CA_tr cC CA_Q) (MA_tr cM (MA_A (Or.inr (Or.inl ⟨by omega, by omega, by omega⟩)))) (FX_tr cF (FX_tr FX_Q (FX_M (by omega)))) c14 (by rw [mA_ne (by omega)]; exact c16) (BG_lock hB hc) (by rw [hC1]; exact hp) ?_
      rw [hm]
      congr 1
      exact mR_cm M5 _ _ (by omega)
    · rw [if_neg z0] at hm
      have lk : f_X0_lockToRead a (nI (k / 100 % 100)) C1 = some (0, C1) := by
        unfold f_X0_lockToRead
        rw [if_pos (ck (k / 100 % 100) 24 (by omega)), nc (k / 100 % 100) (by omega), y1, if_neg z0]
      have sc := seenC C1 rfl rfl (by rw [y1])
      exact PR_ld h ha hs hq C1 M5 _ cC cM cF c14 c16 hB (by rw [hC1]; exact hp _ _ lk sc) hm
  rcases hh with o | o | o | o | o | o | o | o | o
  · -- READ
    have hc : k / 100 % 100 < 24 := s2 (by omega)
    rw [c_perf (C := C1) a80 hN hk o] at hp0
    refine rd 0 hc (fun Cp x q1 q2 => ?_) (fun x q1 => ?_)
    · rw [hp0, if_pos (by decide), q1, k_bs, q2, k_bs, Int32.add_zero]
    · rw [hm0, o, if_pos (by decide)]
      unfold f_X4_does_73 f_X4_does_100 f_X4_does_341
      rw [q1, k_bs, if_neg (by decide), if_pos (ck a 80 (by omega)), nc a (by omega), k_ls, ix24, if_pos (ck (24 * a + k / 100 % 100) 1920 (by omega)), nc (24 * a + k / 100 % 100) (by omega)]
      simp only [k_ls, if_neg (show ¬ nI 0 = 5 by decide)]
  · -- SET
    rw [c_perf (C := C1) a80 hN hk o] at hp0
    refine PR_ld h ha hs hq C1 M5 (nI (k % 100) - 50) cC cM cF c14 c16 hB (by rw [hC1, hp0, if_neg (by decide), if_pos (by decide)]) ?_
    rw [hm0, o, if_neg (by decide), if_neg (by decide), if_pos (by decide), k_ls]
    unfold f_X4_does_341
    rw [if_neg (by decide)]
  · -- ADD
    rw [c_perf (C := C1) a80 hN hk o] at hp0
    refine PR_ld h ha hs hq C1 M5 (gP C1 a 13 + nI (k % 100) - 50) cC cM cF c14 c16 hB (by rw [hC1, hp0, if_neg (by decide), if_neg (by decide), if_pos (by decide)]) ?_
    rw [hm0, o, if_neg (by decide), if_neg (by decide), if_neg (by decide), if_pos (by decide), k_ls]
    unfold f_X4_does_341
    rw [if_neg (by decide), g5]
    have e1 : ∀ x y : Int32, x + (y - 50) = x + y - 50 := fun x y => by rw [Int32.sub_eq_add_neg, Int32.sub_eq_add_neg, Int32.add_assoc]
    rw [e1]
  · -- WRITE
    have hc : k / 100 % 100 < 24 := s2 (by omega)
    obtain ⟨t1, t2, t3⟩ : M.1 0 = nI t ∧ C.1 15 = nI t ∧ t ≤ 5000 := h 1
    obtain ⟨z1, z2, z3, z4, z5, z6⟩ : M.1 31 = nI e ∧ C.1 21 = nI e ∧ 4 * e ≤ M.2.2 ∧ lnOK M.2.2 ∧ e ≤ gE C ∧ isE (gE C) := h 3
    rw [c_perf (C := C1) a80 hN hk o] at hp0
    generalize hC2 : cQF (cQF C1 a 5 (upd (gQ C1 a 5) (k / 100 % 100) 2)) a 6 (upd (gQ C1 a 6) (k / 100 % 100) (gP C1 a 13)) = C2
    generalize hM2 : mA (mA M5 23 (24 * a + k / 100 % 100) 2) 24 (24 * a + k / 100 % 100) (M5.2.1 15 a) = M2
    have caC : CA a C C2 := by rw [← hC2]; exact CA_tr cC (CA_tr CA_Q CA_Q)
    have caM : MA a M M2 := by rw [← hM2]; exact MA_tr cM (MA_tr (MA_A (Or.inr (Or.inl ⟨by omega, by omega, by omega⟩))) (MA_A (Or.inr (Or.inl ⟨by omega, by omega, by omega⟩))))
    have caF : FX a C C2 M M2 := by rw [← hC2, ← hM2]; exact FX_tr cF (FX_tr (FX_tr FX_Q FX_Q) (FX_tr (FX_M (by omega)) (FX_M (by omega))))
    have bg : BGx C2 M2 a l q := by rw [← hC2, ← hM2, g5]; exact BG_put hB hc
    have put : f_X0_put a (nI (k / 100 % 100)) C1 = some (0, C2) := by
      unfold f_X0_put
      rw [if_pos (ck (k / 100 % 100) 24 (by omega)), nc (k / 100 % 100) (by omega), k_ls, k_ls, ← hC2, show gQ (cQF C1 a 5 (upd (gQ C1 a 5) (k / 100 % 100) 2)) a 6 = gQ C1 a 6 from by rw [cQ_Q, if_neg (by omega)]]
      rfl
    have n15 : C2.1 15 = nI t := by rw [caC.1.1]; exact t2
    obtain ⟨C3, w1, w2⟩ := c_write (C := C2) (e := e) (k := 1) (a := nI a) (c := nI (k / 100 % 100)) (t := nI t) (by rw [caC.1.1]; exact z2) (by rw [caC.1.2.2.2.1]; exact z5) (by rw [caC.1.2.2.2.1]; exact z6) (by omega)
    obtain ⟨M3, v1, v2⟩ := m_logs2 (M := M2) (e := e) (x := 1) (y := nI a) (z := nI (k / 100 % 100)) (by rw [caM.1]; exact z1) (by rw [caM.2.1]; exact z3) (by rw [caM.2.1]; exact z4) hb
    have cal := CAL_of caC w2 (CA_rf a C3)
    have mal := MAL_of caM v2 (MA_rf a M3)
    have gP3 : gP C3 = gP C2 := w2.2.2.2.2.2.2.1
    have gQ3 : gQ C3 = gQ C2 := w2.2.2.2.2.2.2.2.1
    have gM3 : ∀ j, j ≠ 33 → M3.2.1 j = M2.2.1 j := v2.2.1
    have s3 : M3.2.1 11 a = 1 := by rw [gM3 11 (by omega), caF.2 11 (by omega)]; exact hs
    refine ⟨1, C3, M3, 0, e + 1, q, ?_, ?_, ?_, ⟨by omega, Nat.le_refl _⟩, fun x => absurd x (by decide), CX_L cal, MX_L mal, by omega, ?_, ?_, ?_, Or.inr rfl, fun _ => ⟨?_, by omega⟩⟩
    · rw [hC1, hp0, if_neg (by decide), if_neg (by decide), if_neg (by decide), if_pos (by decide), put, k_bs, n15, w1, k_bs]
    · rw [hm0, o, if_neg (by decide), if_neg (by decide), if_neg (by decide), if_neg (by decide), if_pos (by decide), ix24, if_pos (ck (24 * a + k / 100 % 100) 1920 (by omega)), nc (24 * a + k / 100 % 100) (by omega), k_ls, k_ls, show (mA M5 23 (24 * a + k / 100 % 100) 2).2.1 15 a = M5.2.1 15 a from by rw [mA_ne (by omega)], hM2, v1, k_bs]
      unfold f_X4_does_341
      rw [if_neg (by decide), if_neg (by decide)]
      rfl
    · refine RIn_lg (k := 1) (RIn_of h) ha cal mal (by omega) (by omega) (Or.inr ⟨_, hc, rfl⟩) (Or.inr hs) (Or.inl ⟨by omega, Or.inr s3⟩) (fun k hk => Nat.le_trans (cntK_le (fun x y => ?_) ?_ n) (h 24 k hk)) hb
      · by_cases e2 : x = a
        · rw [e2]; exact hs
        · rw [← mal.2.1 11 x (by omega) (noAt1 e2 (by omega))]; exact y
      · funext i; exact mal.2.1 9 i (by omega) (noAt (by omega))
    · exact ⟨fun j hj => by rw [gP3]; exact caF.1 j hj, fun j hj => by rw [gM3 j (by omega)]; exact caF.2 j hj⟩
    · rw [gP3, ← hC2]; exact c14
    · rw [gM3 16 (by omega), ← hM2, mA_ne (by omega), mA_ne (by omega)]; exact c16
    · exact BG_c bg (fun j _ => by rw [gP3]) (by rw [gQ3]) (fun j hj => gM3 j (by omega))
  · -- SUM
    have hc : k / 100 % 100 < 24 := s2 (by omega)
    rw [c_perf (C := C1) a80 hN hk o] at hp0
    refine rd (M5.2.1 15 a) hc (fun Cp x q1 q2 => ?_) (fun x q1 => ?_)
    · have eg : gP Cp a 13 = M5.2.1 15 a := by
        rw [← g5]
        unfold f_X0_lockToRead at q1
        rw [if_pos (ck (k / 100 % 100) 24 (by omega))] at q1
        by_cases z : gQ C1 a 5 (nI (k / 100 % 100)).toNatClampNeg = 0
        · rw [if_pos z, k_ls] at q1
          have := congrArg (fun z => z.2) (Option.some.inj q1)
          simp only [] at this
          rw [← this]; rfl
        · rw [if_neg z] at q1
          have := congrArg (fun z => z.2) (Option.some.inj q1)
          simp only [] at this
          rw [← this]
      rw [hp0, if_neg (by decide), if_neg (by decide), if_neg (by decide), if_neg (by decide), if_pos (by decide), q1, k_bs, q2, k_bs, eg, Int32.add_comm]
    · rw [hm0, o, if_neg (by decide), if_pos (by decide)]
      unfold f_X4_does_73 f_X4_does_100 f_X4_does_341
      rw [q1, k_bs, if_pos (by decide), if_pos (ck a 80 (by omega)), if_pos (ck a 80 (by omega)), nc a (by omega), k_ls, ix24, if_pos (ck (24 * a + k / 100 % 100) 1920 (by omega)), nc (24 * a + k / 100 % 100) (by omega)]
      simp only [k_ls, if_neg (show ¬ nI 4 = 5 by decide)]
  · -- CHECK
    rw [c_perf (C := C1) a80 hN hk o] at hp0
    rw [o, if_neg (by decide), if_neg (by decide), if_neg (by decide), if_neg (by decide), if_neg (by decide), if_neg (by decide), if_neg (by decide), if_pos (by decide)] at hm0
    rw [if_neg (by decide), if_neg (by decide), if_neg (by decide), if_neg (by decide), if_neg (by decide), if_pos (by decide), g5] at hp0
    unfold f_X4_does_341 at hm0
    rw [if_pos (by decide), if_pos (ck a 80 (by omega)), nc a (by omega)] at hm0
    by_cases z : M5.2.1 15 a < 0
    · rw [if_pos z] at hp0 hm0
      exact PR_mk h ha hs 0 C1 M5 0 q (by rw [hC1]; exact hp0) (by rw [o]; exact hm0) cC cM (by omega) cF c14 c16 (Or.inl rfl) (fun q => absurd q (by decide))
    · rw [if_neg z] at hp0 hm0
      exact PR_mk h ha hs 1 C1 M5 0 q (by rw [hC1]; exact hp0) (by rw [o]; exact hm0) cC cM (by omega) cF c14 c16 (Or.inr rfl) (fun _ => ⟨hB, by omega⟩)
  · -- HOT
    have hc : k / 100 % 100 < 8 := s3 (by omega)
    rw [c_perf (C := C1) a80 hN hk o] at hp0
    rw [if_neg (by decide), if_neg (by decide), if_neg (by decide), if_neg (by decide), if_neg (by decide), if_neg (by decide), if_pos (by decide)] at hp0
    have hb2 : (50 : Int32) ≤ nI (k % 100) ↔ 50 ≤ k % 100 := nIle (a := 50) (b := k % 100) (by omega) (by omega)
    have w5 := w50 (k % 100) (by omega)
    generalize hw : (if (0 : Int32) < nI (k % 100) - 50 then (0 : Int32) else nI (k % 100) - 50) = w at w5
    have gv : f_X0_give a (nI (k / 100 % 100)) (nI (k % 100) - 50) C1 = some (0, cQF (cQF C1 a 7 (upd (gQ C1 a 7) (k / 100 % 100) (gQ C1 a 7 (k / 100 % 100) + (nI (k % 100) - 50)))) a 8 (upd (gQ C1 a 8) (k / 100 % 100) (gQ C1 a 8 (k / 100 % 100) + w))) := by
      unfold f_X0_give
      rw [if_pos (ck (k / 100 % 100) 8 (by omega)), nc (k / 100 % 100) (by omega), k_ls, k_ls, hw]
      rw [show gQ (cQF C1 a 7 (upd (gQ C1 a 7) (k / 100 % 100) (gQ C1 a 7 (k / 100 % 100) + (nI (k % 100) - 50)))) a 8 = gQ C1 a 8 from by rw [cQ_Q, if_neg (by omega)]]
    rw [gv, k_bs] at hp0
    refine PR_mk h ha hs 1 _ (mA (mA M5 25 (8 * a + k / 100 % 100) (M5.2.1 25 (8 * a + k / 100 % 100) + (nI (k % 100) - 50))) 26 (8 * a + k / 100 % 100) (M5.2.1 26 (8 * a + k / 100 % 100) + w)) 0 q (by rw [hC1]; exact hp0) ?_ (CA_tr cC (CA_tr CA_Q CA_Q)) (MA_tr cM (MA_tr (MA_A (Or.inr (Or.inr (Or.inl ⟨by omega, by omega, by omega⟩)))) (MA_A (Or.inr (Or.inr (Or.inl ⟨by omega, by omega, by omega⟩)))))) (by omega) (FX_tr cF (FX_tr (FX_tr FX_Q FX_Q) (FX_tr (FX_M (by omega)) (FX_M (by omega))))) c14 (by rw [mA_ne (by omega), mA_ne (by omega)]; exact c16) (Or.inr rfl) (fun _ => ⟨BG_give hB hc, by omega⟩)
    rw [hm0, o, if_neg (by decide), if_neg (by decide), if_neg (by decide), if_neg (by decide), if_neg (by decide), if_pos (by decide), ix8, if_pos (ck (8 * a + k / 100 % 100) 640 (by omega)), nc (8 * a + k / 100 % 100) (by omega), k_ls]
    unfold f_X4_does_276 f_X4_does_341
    rw [if_neg (show ¬ (1 : Int32) = 0 by decide)]
    simp only [k_ls, if_neg (show ¬ nI 6 = 5 by decide), if_pos (ck (8 * a + k / 100 % 100) 640 (by omega)), nc (8 * a + k / 100 % 100) (by omega)]
    rw [show (mA M5 25 (8 * a + k / 100 % 100) (M5.2.1 25 (8 * a + k / 100 % 100) + (nI (k % 100) - 50))).2.1 26 = M5.2.1 26 from mA_ne (by omega)]
    by_cases z : 50 ≤ k % 100
    · rw [if_pos (hb2.mpr z), w5, if_pos z]; rfl
    · rw [if_neg (fun x => z (hb2.mp x)), w5, if_neg z]; rfl
  · -- QUEUE
    have hc : k / 100 % 100 < 8 := s3 (by omega)
    rw [c_perf (C := C1) a80 hN hk o] at hp0
    rw [if_neg (by decide), if_neg (by decide), if_neg (by decide), if_neg (by decide), if_neg (by decide), if_neg (by decide), if_neg (by decide), if_pos (by decide)] at hp0
    have eq : f_X0_enqueue a (nI (k / 100 % 100)) C1 = some (0, cP (cQF C1 a 9 (upd (gQ C1 a 9) q (nI (k / 100 % 100)))) a 11 (nI (q + 1))) := by
      unfold f_X0_enqueue
      rw [g4, if_neg (show ¬ 12 ≤ nI q from nn (a := 12) (by omega) (by omega) (by omega)), if_pos (ck q 12 (by omega)), nc q (by omega), k_ls, k_ls]
      rw [show gP (cQF C1 a 9 (upd (gQ C1 a 9) q (nI (k / 100 % 100)))) a 11 = nI q from g4, n1, nI_add]
    rw [eq, k_bs] at hp0
    refine PR_mk h ha hs 1 _ (mA (mA M5 27 (12 * a + q) (nI (k / 100 % 100))) 28 a (nI (q + 1))) 0 (q + 1) (by rw [hC1]; exact hp0) ?_ (CA_tr cC (CA_tr CA_Q CA_P)) (MA_tr cM (MA_tr (MA_A (Or.inl ⟨by omega, by omega, by omega⟩)) (MA_a (by omega)))) (by omega) (FX_tr cF (FX_tr (FX_tr FX_Q (FX_P (by omega))) (FX_tr (FX_M (by omega)) (FX_M (by omega))))) (by rw [cP_Pa, if_neg (by omega)]; exact c14) (by rw [mA_ne (by omega), mA_ne (by omega)]; exact c16) (Or.inr rfl) (fun _ => ⟨BG_queue hB hc (by omega), by omega⟩)
    rw [hm0, o, if_neg (by decide), if_neg (by decide), if_neg (by decide), if_neg (by decide), if_neg (by decide), if_neg (by decide), if_pos (by decide), g3, ix12, if_pos (ck (12 * a + q) 960 (by omega)), nc (12 * a + q) (by omega), k_ls, k_ls, show (mA M5 27 (12 * a + q) (nI (k / 100 % 100))).2.1 28 = M5.2.1 28 from mA_ne (by omega), g3, n1, nI_add]
    unfold f_X4_does_341
    rw [if_neg (by decide), if_neg (by decide)]
    rfl
  · -- SKIP
    rw [c_perf (C := C1) a80 hN hk o] at hp0
    rw [if_neg (by decide), if_neg (by decide), if_neg (by decide), if_neg (by decide), if_neg (by decide), if_neg (by decide), if_neg (by decide), if_neg (by decide), if_pos (by decide), g5, c14] at hp0
    rw [o, if_neg (by decide), if_neg (by decide), if_neg (by decide), if_neg (by decide), if_neg (by decide), if_neg (by decide), if_neg (by decide), if_neg (by decide)] at hm0
    unfold f_X4_does_339 f_X4_does_341 at hm0
    simp only [if_neg (show ¬ nI 8 = 5 by decide)] at hm0
    by_cases z : 0 ≤ M5.2.1 15 a
    · rw [if_pos z, k_ls, Int32.add_zero] at hp0
      rw [if_pos z] at hm0
      exact PR_mk h ha hs 1 _ M5 0 q (by rw [hC1]; exact hp0) (by rw [o]; exact hm0) (CA_tr cC CA_P) cM (by omega) (FX_tr cF (FX_P (by omega))) (by rw [cP_Pa, if_pos rfl]) c16 (Or.inr rfl) (fun _ => ⟨BG_c hB (fun j hj => by rw [cP_Pa, if_neg (by omega)]) rfl (fun _ _ => rfl), by omega⟩)
    · rw [if_neg z, k_ls, nI_add] at hp0
      rw [if_neg z] at hm0
      exact PR_mk h ha hs 1 _ M5 (k % 100) q (by rw [hC1]; exact hp0) (by rw [o]; exact hm0) (CA_tr cC CA_P) cM (by omega) (FX_tr cF (FX_P (by omega))) (by rw [cP_Pa, if_pos rfl]) c16 (Or.inr rfl) (fun _ => ⟨BG_c hB (fun j hj => by rw [cP_Pa, if_neg (by omega)]) rfl (fun _ _ => rfl), by omega⟩)
