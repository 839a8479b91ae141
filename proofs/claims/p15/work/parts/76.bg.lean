/-! ===== an act that is begun takes a step ===== -/
def BGx (C : CS) (M : MS) (a l q : Nat) : Prop := M.2.1 12 a = nI l ∧ gP C a 10 = nI l ∧ M.2.1 28 a = nI q ∧ gP C a 11 = nI q ∧ gP C a 13 = M.2.1 15 a ∧ (-1000000 ≤ (M.2.1 15 a).toInt ∧ (M.2.1 15 a).toInt ≤ 1000000) ∧ (∀ j, j < l → gQ C a 4 j = M.2.1 13 (12 * a + j) ∧ SOK (M.2.1 13 (12 * a + j))) ∧ (∀ j, j < q → gQ C a 9 j = M.2.1 27 (12 * a + j) ∧ ∃ p, p < 8 ∧ M.2.1 27 (12 * a + j) = nI p) ∧ (∀ c, c < 24 → gQ C a 5 c = M.2.1 23 (24 * a + c) ∧ (∃ h, h ≤ 2 ∧ M.2.1 23 (24 * a + c) = nI h) ∧ (M.2.1 23 (24 * a + c) = 2 → gQ C a 6 c = M.2.1 24 (24 * a + c))) ∧ ∀ c, c < 8 → gQ C a 7 c = M.2.1 25 (8 * a + c) ∧ gQ C a 8 c = M.2.1 26 (8 * a + c)
theorem BEG_of {C : CS} {M : MS} {a l s q : Nat} (h1 : l ≤ 12) (h2 : s < l) (h3 : q ≤ s) (h4 : M.2.1 14 a = nI s) (h5 : gP C a 14 = nI s) (h : BGx C M a l q) : BEG C M a := by
  obtain ⟨g1, g2, g3, g4, g5, g6, g7, g8, g9, g10⟩ := h
  exact ⟨l, s, q, h1, g1, g2, h2, h4, h5, h3, g3, g4, g5, g6.1, g6.2, g7, g8, g9, g10⟩
theorem BG_of {C : CS} {M : MS} {a : Nat} (h : BEG C M a) : ∃ l s q, l ≤ 12 ∧ s < l ∧ q ≤ s ∧ M.2.1 14 a = nI s ∧ gP C a 14 = nI s ∧ BGx C M a l q := by
  obtain ⟨l, s, q, g1, g2, g3, g4, g5, g6, g7, g8, g9, g10, g11, g12, g13, g14, g15, g16⟩ := h
  exact ⟨l, s, q, g1, g4, g7, g5, g6, g2, g3, g8, g9, g10, ⟨g11, g12⟩, g13, g14, g15, g16⟩
/-- fields that it doesn't speak of -/
theorem BG_c {C C' : CS} {M M' : MS} {a l q : Nat} (h : BGx C M a l q) (hP : ∀ j, j = 10 ∨ j = 11 ∨ j = 13 → gP C' a j = gP C a j) (hQ : gQ C' a = gQ C a) (hM : ∀ k, k = 12 ∨ k = 13 ∨ k = 15 ∨ k = 23 ∨ k = 24 ∨ k = 25 ∨ k = 26 ∨ k = 27 ∨ k = 28 → M'.2.1 k = M.2.1 k) : BGx C' M' a l q := by
  unfold BGx
  rw [hM 12 (by omega), hM 13 (by omega), hM 15 (by omega), hM 23 (by omega), hM 24 (by omega), hM 25 (by omega), hM 26 (by omega), hM 27 (by omega), hM 28 (by omega), hP 10 (by omega), hP 11 (by omega), hP 13 (by omega), hQ]
  exact h
theorem BG_reg {C : CS} {M : MS} {a l q : Nat} {v : Int32} (h : BGx C M a l q) (hv : -1000000 ≤ v.toInt ∧ v.toInt ≤ 1000000) : BGx (cP C a 13 v) (mA M 15 a v) a l q := by
  obtain ⟨g1, g2, g3, g4, g5, g6, g7, g8, g9, g10⟩ := h
  have e : (mA M 15 a v).2.1 15 a = v := pk_us
  refine ⟨g1, by rw [cP_P, if_neg (by omega)]; exact g2, g3, by rw [cP_P, if_neg (by omega)]; exact g4, by rw [e, cP_P, if_pos ⟨rfl, rfl⟩], by rw [e]; exact hv, g7, g8, g9, g10⟩
theorem BG_lock {C : CS} {M : MS} {a l q c : Nat} (h : BGx C M a l q) (hc : c < 24) : BGx (cQF C a 5 (upd (gQ C a 5) c 1)) (mA M 23 (24 * a + c) 1) a l q := by
  obtain ⟨g1, g2, g3, g4, g5, g6, g7, g8, g9, g10⟩ := h
  have e0 : ∀ j, j ≠ 5 → gQ (cQF C a 5 (upd (gQ C a 5) c 1)) a j = gQ C a j := fun j hj => by rw [cQ_Q, if_neg (by omega)]
  have e5 : gQ (cQF C a 5 (upd (gQ C a 5) c 1)) a 5 = upd (gQ C a 5) c 1 := by rw [cQ_Q, if_pos ⟨rfl, rfl⟩]
  have m23 : (mA M 23 (24 * a + c) 1).2.1 23 = upd (M.2.1 23) (24 * a + c) 1 := rfl
  have m24 : (mA M 23 (24 * a + c) 1).2.1 24 = M.2.1 24 := rfl
  refine ⟨g1, g2, g3, g4, g5, g6, fun j hj => by rw [e0 4 (by omega)]; exact g7 j hj, fun j hj => by rw [e0 9 (by omega)]; exact g8 j hj, fun x hx => ?_, fun x hx => by rw [e0 7 (by omega), e0 8 (by omega)]; exact g10 x hx⟩
  rw [e5, e0 6 (by omega), m23, m24, upd_get, upd_get]
  by_cases q : x = c
  · rw [if_pos q, if_pos (by omega)]; exact ⟨rfl, ⟨1, by omega, rfl⟩, fun q => absurd q (by decide)⟩
  · rw [if_neg q, if_neg (by omega)]; exact g9 x hx
theorem BG_put {C : CS} {M : MS} {a l q c : Nat} {v : Int32} (h : BGx C M a l q) (hc : c < 24) : BGx (cQF (cQF C a 5 (upd (gQ C a 5) c 2)) a 6 (upd (gQ C a 6) c v)) (mA (mA M 23 (24 * a + c) 2) 24 (24 * a + c) v) a l q := by
  obtain ⟨g1, g2, g3, g4, g5, g6, g7, g8, g9, g10⟩ := h
  generalize hC : cQF (cQF C a 5 (upd (gQ C a 5) c 2)) a 6 (upd (gQ C a 6) c v) = C'
  have e0 : ∀ j, j ≠ 5 → j ≠ 6 → gQ C' a j = gQ C a j := fun j h1 h2 => by rw [← hC, cQ_Q, if_neg (by omega), cQ_Q, if_neg (by omega)]
  have e5 : gQ C' a 5 = upd (gQ C a 5) c 2 := by rw [← hC, cQ_Q, if_neg (by omega), cQ_Q, if_pos ⟨rfl, rfl⟩]
  have e6 : gQ C' a 6 = upd (gQ C a 6) c v := by rw [← hC, cQ_Q, if_pos ⟨rfl, rfl⟩]
  have m23 : (mA (mA M 23 (24 * a + c) 2) 24 (24 * a + c) v).2.1 23 = upd (M.2.1 23) (24 * a + c) 2 := rfl
  have m24 : (mA (mA M 23 (24 * a + c) 2) 24 (24 * a + c) v).2.1 24 = upd (M.2.1 24) (24 * a + c) v := rfl
  have eP : gP C' = gP C := by rw [← hC]; rfl
  refine ⟨g1, by rw [eP]; exact g2, g3, by rw [eP]; exact g4, by rw [eP]; exact g5, g6, fun j hj => by rw [e0 4 (by omega) (by omega)]; exact g7 j hj, fun j hj => by rw [e0 9 (by omega) (by omega)]; exact g8 j hj, fun x hx => ?_, fun x hx => by rw [e0 7 (by omega) (by omega), e0 8 (by omega) (by omega)]; exact g10 x hx⟩
  rw [e5, e6, m23, m24, upd_get, upd_get, upd_get, upd_get]
  by_cases q : x = c
  · rw [if_pos q, if_pos q, if_pos (by omega), if_pos (by omega)]; exact ⟨rfl, ⟨2, by omega, rfl⟩, fun _ => rfl⟩
  · rw [if_neg q, if_neg q, if_neg (by omega), if_neg (by omega)]; exact g9 x hx
theorem BG_give {C : CS} {M : MS} {a l q c : Nat} {v w : Int32} (h : BGx C M a l q) (hc : c < 8) : BGx (cQF (cQF C a 7 (upd (gQ C a 7) c (gQ C a 7 c + v))) a 8 (upd (gQ C a 8) c (gQ C a 8 c + w))) (mA (mA M 25 (8 * a + c) (M.2.1 25 (8 * a + c) + v)) 26 (8 * a + c) (M.2.1 26 (8 * a + c) + w)) a l q := by
  obtain ⟨g1, g2, g3, g4, g5, g6, g7, g8, g9, g10⟩ := h
  generalize hC : cQF (cQF C a 7 (upd (gQ C a 7) c (gQ C a 7 c + v))) a 8 (upd (gQ C a 8) c (gQ C a 8 c + w)) = C'
  have e0 : ∀ j, j ≠ 7 → j ≠ 8 → gQ C' a j = gQ C a j := fun j h1 h2 => by rw [← hC, cQ_Q, if_neg (by omega), cQ_Q, if_neg (by omega)]
  have e7 : gQ C' a 7 = upd (gQ C a 7) c (gQ C a 7 c + v) := by rw [← hC, cQ_Q, if_neg (by omega), cQ_Q, if_pos ⟨rfl, rfl⟩]
  have e8 : gQ C' a 8 = upd (gQ C a 8) c (gQ C a 8 c + w) := by rw [← hC, cQ_Q, if_pos ⟨rfl, rfl⟩]
  have eP : gP C' = gP C := by rw [← hC]; rfl
  have m25 : (mA (mA M 25 (8 * a + c) (M.2.1 25 (8 * a + c) + v)) 26 (8 * a + c) (M.2.1 26 (8 * a + c) + w)).2.1 25 = upd (M.2.1 25) (8 * a + c) (M.2.1 25 (8 * a + c) + v) := rfl
  have m26 : (mA (mA M 25 (8 * a + c) (M.2.1 25 (8 * a + c) + v)) 26 (8 * a + c) (M.2.1 26 (8 * a + c) + w)).2.1 26 = upd (M.2.1 26) (8 * a + c) (M.2.1 26 (8 * a + c) + w) := rfl
  refine ⟨g1, by rw [eP]; exact g2, g3, by rw [eP]; exact g4, by rw [eP]; exact g5, g6, fun j hj => by rw [e0 4 (by omega) (by omega)]; exact g7 j hj, fun j hj => by rw [e0 9 (by omega) (by omega)]; exact g8 j hj, fun x hx => by rw [e0 5 (by omega) (by omega), e0 6 (by omega) (by omega)]; exact g9 x hx, fun x hx => ?_⟩
  rw [e7, e8, m25, m26, upd_get, upd_get, upd_get, upd_get]
  by_cases q : x = c
  · rw [if_pos q, if_pos q, if_pos (by omega), if_pos (by omega), (g10 c hc).1, (g10 c hc).2]; exact ⟨rfl, rfl⟩
  · rw [if_neg q, if_neg q, if_neg (by omega), if_neg (by omega)]; exact g10 x hx
theorem BG_queue {C : CS} {M : MS} {a l q p : Nat} (h : BGx C M a l q) (hp : p < 8) (hq : q < 12) : BGx (cP (cQF C a 9 (upd (gQ C a 9) q (nI p))) a 11 (nI (q + 1))) (mA (mA M 27 (12 * a + q) (nI p)) 28 a (nI (q + 1))) a l (q + 1) := by
  obtain ⟨g1, g2, g3, g4, g5, g6, g7, g8, g9, g10⟩ := h
  generalize hC : cP (cQF C a 9 (upd (gQ C a 9) q (nI p))) a 11 (nI (q + 1)) = C'
  have e0 : ∀ j, j ≠ 9 → gQ C' a j = gQ C a j := fun j h1 => by rw [← hC, cP_Q, cQ_Q, if_neg (by omega)]
  have e9 : gQ C' a 9 = upd (gQ C a 9) q (nI p) := by rw [← hC, cP_Q, cQ_Q, if_pos ⟨rfl, rfl⟩]
  have eP : ∀ j, j ≠ 11 → gP C' a j = gP C a j := fun j h1 => by rw [← hC, cP_P, if_neg (by omega)]; rfl
  have e11 : gP C' a 11 = nI (q + 1) := by rw [← hC, cP_P, if_pos ⟨rfl, rfl⟩]
  have m28 : (mA (mA M 27 (12 * a + q) (nI p)) 28 a (nI (q + 1))).2.1 28 a = nI (q + 1) := pk_us
  have m27 : (mA (mA M 27 (12 * a + q) (nI p)) 28 a (nI (q + 1))).2.1 27 = upd (M.2.1 27) (12 * a + q) (nI p) := rfl
  refine ⟨g1, by rw [eP 10 (by omega)]; exact g2, m28, e11, by rw [eP 13 (by omega)]; exact g5, g6, fun j hj => by rw [e0 4 (by omega)]; exact g7 j hj, fun j hj => ?_, fun x hx => by rw [e0 5 (by omega), e0 6 (by omega)]; exact g9 x hx, fun x hx => by rw [e0 7 (by omega), e0 8 (by omega)]; exact g10 x hx⟩
  rw [e9, m27, upd_get, upd_get]
  by_cases e : j = q
  · rw [if_pos e, if_pos (by omega)]; exact ⟨rfl, p, hp, rfl⟩
  · rw [if_neg e, if_neg (by omega)]; exact g8 j (by omega)
def CX (a : Nat) (C C' : CS) : Prop := C'.1 14 = C.1 14 ∧ C'.2.1 8 = C.2.1 8 ∧ ∀ b, b ≠ a → gP C' b = gP C b ∧ gQ C' b = gQ C b
def MX (a : Nat) (M M' : MS) : Prop := ∀ k i, k ≠ 33 → ¬ AtA k a i → M'.2.1 k i = M.2.1 k i
theorem CX_tr {a : Nat} {A B C : CS} (h1 : CX a A B) (h2 : CX a B C) : CX a A C := ⟨h2.1.trans h1.1, h2.2.1.trans h1.2.1, fun b hb => ⟨(h2.2.2 b hb).1.trans (h1.2.2 b hb).1, (h2.2.2 b hb).2.trans (h1.2.2 b hb).2⟩⟩
theorem MX_tr {a : Nat} {M M1 M2 : MS} (h1 : MX a M M1) (h2 : MX a M1 M2) : MX a M M2 := fun k i hk h => (h2 k i hk h).trans (h1 k i hk h)
theorem CX_A {a : Nat} {C C' : CS} (h : CA a C C') : CX a C C' := ⟨by rw [h.1.1], by rw [h.1.2.1], h.2⟩
theorem MX_A {a : Nat} {M M' : MS} (h : MA a M M') : MX a M M' := fun k i _ q => h.2.2 k i q
theorem CX_L {a e : Nat} {v : Int32} {C C' : CS} (h : CAL a C C' e v) : CX a C C' := ⟨by rw [h.1]; rfl, h.2.1 8 (by omega), h.2.2.2.2.2.2.2.2⟩
theorem MX_L {a e : Nat} {x y z : Int32} {M M' : MS} (h : MAL a M M' e x y z) : MX a M M' := h.2.1
def FX (a : Nat) (C C' : CS) (M M' : MS) : Prop := (∀ j, j = 0 ∨ j = 1 ∨ j = 2 ∨ j = 3 ∨ j = 12 ∨ j = 15 ∨ j = 16 ∨ j = 17 ∨ j = 18 ∨ j = 19 → gP C' a j = gP C a j) ∧ ∀ j, j = 11 ∨ j = 12 ∨ j = 14 ∨ j = 17 ∨ j = 18 ∨ j = 20 → M'.2.1 j a = M.2.1 j a
theorem RIn_stay {C C' : CS} {M M' : MS} {n t u d e kp fa a : Nat} (h : RIn a C M n t u d e kp fa) (ha : a < n) (hC : CA a C C') (hM : MA a M M') (hs : M.2.1 11 a = 1) (hs' : M'.2.1 11 a = 1) : RIn a C' M' n t u d e kp fa := by
  refine RIn_chg h ha hC hM (Or.inr hs) (Or.inr (Or.inl hs')) (fun k hk => Nat.le_trans (cntK_le (fun x q => ?_) ?_ n) (h.1 24 (by omega) k hk))
  · by_cases e2 : x = a
    · rw [e2]; exact hs
    · rw [← hM.2.2 11 x (noAt1 e2 (by omega))]; exact q
  · funext i; exact hM.2.2 9 i (noAt (by omega))
/-- what a step that can be taken does, on both sides: it fails (0) or not -/
def PR (a k : Nat) (C : CS) (M : MS) (n t u d e kp fa l s : Nat) : Prop := ∃ (r : Int32) (C2 : CS) (M2 : MS) (v e' q' : Nat), f_X3_perform (nI a) (nI k) (cP C a 14 (nI (s + 1))) = some (r, C2) ∧ f_X4_does_50 (nI a) (nI (k / 10000)) (nI (k / 100 % 100)) (nI (k % 100)) 0 (nI a) M = (if r = 0 then f_X4_does_371 (nI a) M2 else f_X4_does_355 (nI a) (nI v) M2) ∧ RIn a C2 M2 n t u d e' kp fa ∧ (e ≤ e' ∧ e' ≤ e + 1) ∧ (r = 0 → e' = e) ∧ CX a C C2 ∧ MX a M M2 ∧ v ≤ 99 ∧ FX a C C2 M M2 ∧ gP C2 a 14 = nI (s + 1 + v) ∧ M2.2.1 16 a = 0 ∧ (r = 0 ∨ r = 1) ∧ (r = 1 → BGx C2 M2 a l q' ∧ q' ≤ s + 1)
theorem m_in6 {x : Int32} : f_X4_in x (-1000000) 1000000 = if -1000000 ≤ x.toInt ∧ x.toInt ≤ 1000000 then 1 else 0 := by
  rw [m_in]
  have e1 : ((-1000000 : Int32)).toInt = -1000000 := by decide
  have e2 : ((1000000 : Int32)).toInt = 1000000 := by decide
  simp only [Int32.le_iff_toInt_le, e1, e2]
theorem c_load {C : CS} {a : Nat} {v : Int32} : f_X0_load a v C = if -1000000 ≤ v.toInt ∧ v.toInt ≤ 1000000 then some (1, cP C a 13 v) else some (0, C) := by
  unfold f_X0_load
  have e1 : ((-1000000 : Int32)).toInt = -1000000 := by decide
  have e2 : ((1000000 : Int32)).toInt = 1000000 := by decide
  by_cases h1 : 1000000 < v
  · have := k_lt h1; rw [if_pos h1, if_neg (by omega)]
  · have := k_nlt h1
    rw [if_neg h1]
    by_cases h2 : -1000000 ≤ v
    · have := k_le h2; rw [if_pos h2, if_pos (by omega), k_ls]
    · have := k_nle h2; rw [if_neg h2, if_neg (by omega)]
/-- the reference, once the step may be taken -/
theorem m_does_50 {M : MS} {a o c b : Nat} (ha : a < 80) : f_X4_does_50 (nI a) (nI o) (nI c) (nI b) 0 (nI a) M = (fun M5 : MS => (if nI o = 0 then f_X4_does_73 (nI a) (nI o) (nI c) (0 : Int32) M5 else (if nI o = 4 then f_X4_does_73 (nI a) (nI o) (nI c) (0 : Int32) M5 else (if nI o = 1 then (k_let (mA M5 15 a (nI b - 50)) fun M51 => f_X4_does_341 (nI a) (nI o) (0 : Int32) M51) else (if nI o = 2 then (k_let (mA M5 15 a ((M5.2.1 15) a + (nI b - 50))) fun M50 => f_X4_does_341 (nI a) (nI o) (0 : Int32) M50) else (if nI o = 3 then (if 0 ≤ ((24 * nI a) + nI c).toInt ∧ ((24 * nI a) + nI c).toInt < 1920 then (k_let (mA M5 23 (((24 * nI a) + nI c).toNatClampNeg) (2 : Int32)) fun M47 => (k_let (mA M47 24 (((24 * nI a) + nI c).toNatClampNeg) ((M47.2.1 15) a)) fun M48 => (k_bind (f_X4_logs (1 : Int32) (nI a) (nI c) M48) fun r49 M49 => f_X4_does_341 (nI a) (nI o) (0 : Int32) M49))) else none) else (if nI o = 6 then (if 0 ≤ ((8 * nI a) + nI c).toInt ∧ ((8 * nI a) + nI c).toInt < 640 then (k_let (mA M5 25 (((8 * nI a) + nI c).toNatClampNeg) (((M5.2.1 25) ((8 * nI a) + nI c).toNatClampNeg) + (nI b - 50))) fun M42 => (if 50 ≤ nI b then f_X4_does_276 (nI a) (nI o) (0 : Int32) (0 : Int32) ((M42.2.1 26) ((8 * nI a) + nI c).toNatClampNeg) ((8 * nI a) + nI c) M42 else f_X4_does_276 (nI a) (nI o) (0 : Int32) (nI b - 50) ((M42.2.1 26) ((8 * nI a) + nI c).toNatClampNeg) ((8 * nI a) + nI c) M42)) else none) else (if nI o = 7 then (if 0 ≤ ((12 * nI a) + ((M5.2.1 28) a)).toInt ∧ ((12 * nI a) + ((M5.2.1 28) a)).toInt < 960 then (k_let (mA M5 27 (((12 * nI a) + ((M5.2.1 28) a)).toNatClampNeg) (nI c)) fun M39 => (k_let (mA M39 28 a (((M39.2.1 28) a) + 1)) fun M40 => f_X4_does_341 (nI a) (nI o) (0 : Int32) M40)) else none) else (if nI o ≤ 7 then f_X4_does_341 (nI a) (nI o) (0 : Int32) M5 else (if 0 ≤ ((M5.2.1 15) a) then f_X4_does_339 (nI a) (nI o) (0 : Int32) M5 else f_X4_does_339 (nI a) (nI o) (nI b) M5)))))))))) (mA M 16 a 0) := by
  unfold f_X4_does_50
  rw [if_pos (ck a 80 (by omega)), nc a (by omega), k_ls, if_pos (ck a 80 (by omega)), show (0 : Int32) &&& 1 = 0 from by decide]
  rw [if_pos (show (mA M 16 a 0).2.1 16 a = 0 from pk_us)]
theorem m_355s {M : MS} {a : Nat} {v : Int32} (ha : a < 80) : f_X4_does_355 (nI a) v M = if -1000000 ≤ (M.2.1 15 a).toInt ∧ (M.2.1 15 a).toInt ≤ 1000000 then f_X4_does_355 (nI a) v M else f_X4_does_371 (nI a) M := by
  by_cases q : -1000000 ≤ (M.2.1 15 a).toInt ∧ (M.2.1 15 a).toInt ≤ 1000000
  · rw [if_pos q]
  · rw [if_neg q]
    unfold f_X4_does_355
    rw [if_pos (ck a 80 (by omega)), nc a (by omega), m_in6, if_neg q, if_pos rfl]
