theorem c_cnt_10 {C : CS} {M : MS} {n : Nat} (hn : n ≤ 80) (h12 : C.1 12 = nI n) (hN : gN C = n) (hs : ∀ a, a < n → gP C a 12 = M.2.1 11 a) (hk : ∀ a, a < n → ∃ p, p < 4 ∧ gP C a 1 = nI p ∧ M.2.1 9 a = nI p) (fu o : Nat) (f : Nat → Int32) (hf : n < fu + o) (ho : o ≤ n) (h9 : ∀ k, k < 4 → f k = nI (cntK M k o)) : ∃ f' : Nat → Int32, f_X3_countBegunOfClasses_10 fu (nI o) (cAF C 9 f) = some (0, cAF C 9 f') ∧ ∀ k, k < 4 → f' k = nI (cntK M k n) := by
  induction fu generalizing o f with
  | zero => omega
  | succ fu ih =>
    rw [f_X3_countBegunOfClasses_10, show (cAF C 9 f).1 12 = nI n from h12]
    by_cases h0 : n ≤ o
    · rw [if_pos (np_ h0 (by omega) (by omega))]
      have : o = n := by omega
      subst this
      exact ⟨f, rfl, h9⟩
    · obtain ⟨p, p1, p2, p3⟩ := hk o (by omega)
      rw [if_neg (nn h0 (by omega) (by omega)), nc o (by omega), if_pos ⟨ck o 80 (by omega), by show o < gN C; omega⟩, show gP (cAF C 9 f) o 12 = M.2.1 11 o from hs o (by omega), show gP (cAF C 9 f) o 1 = nI p from p2]
      by_cases z : M.2.1 11 o = 1
      · rw [if_pos z, if_pos (ck p 4 (by omega)), nc p (by omega), k_ls, f_X3_countBegunOfClasses_49, n1, nI_add, show (cAF C 9 f).2.1 9 = f from rfl, h9 p p1, nI_add]
        have e1 : cAF (cAF C 9 f) 9 (upd f p (nI (cntK M p o + 1))) = cAF C 9 (upd f p (nI (cntK M p o + 1))) := by simp only [cAF, va_upup]
        rw [e1]
        refine ih (o + 1) _ (by omega) (by omega) (fun k hk => ?_)
        rw [upd_get]
        simp only [cntK]
        by_cases y : k = p
        · subst y; rw [if_pos rfl, if_pos ⟨z, p3⟩]
        · rw [if_neg y, if_neg (fun q => y ((nIeq (a := p) (b := k) (by omega) (by omega)).mp (p3.symm.trans q.2)).symm)]; exact h9 k hk
      · rw [if_neg z, f_X3_countBegunOfClasses_49, n1, nI_add]
        refine ih (o + 1) f (by omega) (by omega) (fun k hk => ?_)
        simp only [cntK]; rw [if_neg (fun q => z q.1)]; exact h9 k hk
/-- what is left of the reference's row of acts that wait -/
def Rem (M : MS) (n m i j : Nat) (f ps : Nat → Nat) : Prop := (∀ r, j ≤ r → r < m → M.2.1 36 r = nI (f (ps r)) ∧ i ≤ ps r ∧ ps r < n ∧ M.2.1 11 (f (ps r)) = 0) ∧ (∀ p, i ≤ p → p < n → M.2.1 11 (f p) = 0 → ∃ r, j ≤ r ∧ r < m ∧ ps r = p) ∧ ∀ r r', r < r' → r' < m → ps r < ps r'
theorem Rem_no {M : MS} {n m i j : Nat} {f ps : Nat → Nat} (h : Rem M n m i j f ps) (hs : M.2.1 11 (f i) ≠ 0) : Rem M n m (i + 1) j f ps := by
  obtain ⟨h1, h2, h3⟩ := h
  refine ⟨fun r r1 r2 => ?_, fun p p1 p2 p3 => h2 p (by omega) p2 p3, h3⟩
  obtain ⟨q1, q2, q3, q4⟩ := h1 r r1 r2
  have : ps r ≠ i := fun e => by rw [e] at q4; exact hs q4
  exact ⟨q1, by omega, q3, q4⟩
theorem Rem_cur {M : MS} {n m i j : Nat} {f ps : Nat → Nat} (h : Rem M n m i j f ps) (hi : i < n) (hs : M.2.1 11 (f i) = 0) : j < m ∧ ps j = i := by
  obtain ⟨h1, h2, h3⟩ := h
  obtain ⟨r, r1, r2, r3⟩ := h2 i (Nat.le_refl _) hi hs
  have : r = j := Classical.byContradiction (fun z => by
    have e1 := h3 j r (by omega) r2
    have e2 := (h1 j (Nat.le_refl _) (by omega)).2.1
    omega)
  subst this; exact ⟨r2, r3⟩
theorem Rem_yes {M M' : MS} {n m i j : Nat} {f ps : Nat → Nat} (h : Rem M n m i j f ps) (hp : ps j = i) (hj : j < m) (h36 : M'.2.1 36 = M.2.1 36) (ho : ∀ p, i < p → p < n → M'.2.1 11 (f p) = M.2.1 11 (f p)) : Rem M' n m (i + 1) (j + 1) f ps := by
  obtain ⟨h1, h2, h3⟩ := h
  refine ⟨fun r r1 r2 => ?_, fun p p1 p2 p3 => ?_, h3⟩
  · obtain ⟨q1, q2, q3, q4⟩ := h1 r (by omega) r2
    have := h3 j r (by omega) r2
    exact ⟨by rw [h36]; exact q1, by omega, q3, by rw [ho _ (by omega) q3]; exact q4⟩
  · rw [ho p (by omega) p2] at p3
    obtain ⟨r, r1, r2, r3⟩ := h2 p (by omega) p2 p3
    have : r ≠ j := fun e => by subst e; omega
    exact ⟨r, by omega, r2, r3⟩
theorem bg_loop {n t u d kp fa m : Nat} {f ps : Nat → Nat} (hn80 : n ≤ 80) (inj : ∀ p q, p < q → q < n → f p ≠ f q) (hm : m ≤ n) (k k2 i j : Nat) (C : CS) (M : MS) (e : Nat) (h : ∀ x, RI C M n t u d e kp fa x) (hf1 : ∀ i, i < n → C.2.1 6 i = nI (f i) ∧ f i < n) (h9 : ∀ k, k < 4 → C.2.1 9 k = nI (cntK M k n)) (hR : Rem M n m i j f ps) (hk : n < k + i) (hk2 : m < k2 + j) (hi : i ≤ n) (hj : j ≤ m) (he : e + 80 < 512000 + i) : ∃ C' M' e', f_X3_beginWaiting_6 k (nI i) C = some (0, C') ∧ f_X4_begins_8 k2 (nI m) (nI j) M = some (0, M') ∧ (∀ x, RI C' M' n t u d e' kp fa x) ∧ e' + cntS M 1 n = e + cntS M' 1 n := by
  induction k generalizing k2 i j C M e with
  | zero => omega
  | succ k ih =>
    obtain ⟨b1, b2, b3, b4⟩ : M.1 7 = nI n ∧ C.1 12 = nI n ∧ gN C = n ∧ n ≤ 80 := h 0
    obtain ⟨t1, t2, t3⟩ : M.1 0 = nI t ∧ C.1 15 = nI t ∧ t ≤ 5000 := h 1
    rw [f_X3_beginWaiting_6, b2]
    by_cases h0 : n ≤ i
    · rw [if_pos (np_ h0 (by omega) (by omega))]
      have : j = m := Classical.byContradiction (fun z => by
        have := hR.1 j (Nat.le_refl _) (by omega); omega)
      subst this
      obtain ⟨k2, rfl⟩ : ∃ y, k2 = y + 1 := ⟨k2 - 1, by omega⟩
      rw [f_X4_begins_8, if_pos (np_ (Nat.le_refl _) (by omega) (by omega))]
      exact ⟨C, M, e, rfl, rfl, h, rfl⟩
    · obtain ⟨x1, x2⟩ := hf1 i (by omega)
      obtain ⟨hp0, p, hp, ep⟩ := h 12 (f i) x2 0
      obtain ⟨hk0, kd, hkd, ek⟩ := h 12 (f i) x2 1
      rw [if_neg (nn h0 (by omega) (by omega)), if_pos (ck i 80 (by omega)), nc i (by omega), x1, nc (f i) (by omega), if_pos ⟨ck (f i) 80 (by omega), by omega⟩, hp0, ep, if_pos (ck p 8 (by omega)), nc p (by omega), (h 12 (f i) x2 4).1, hk0, ek]
      by_cases hs : M.2.1 11 (f i) = 0
      · obtain ⟨j1, j2⟩ := Rem_cur hR (by omega) hs
        obtain ⟨k2, rfl⟩ : ∃ y, k2 = y + 1 := ⟨k2 - 1, by omega⟩
        have r36 := (hR.1 j (Nat.le_refl _) j1).1
        rw [j2] at r36
        rw [if_pos hs, f_X4_begins_8, if_neg (nn (show ¬ m ≤ j by omega) (by omega) (by omega)), if_pos (ck j 80 (by omega)), nc j (by omega), r36]
        obtain ⟨l1, l, hl, el⟩ := h 6 p hp
        obtain ⟨lm1, lm, hlm, elm⟩ := h 8 kd hkd
        have c26 := m_cnt26 (M := M) (n := n) (a := f i) (kd := kd) (fun v1 v2 M => f_X4_begins_8 k2 v1 v2 M) (nI m) (nI j) hn80 b1 (by omega) ek 200 0 (by omega) (by omega)
        have c26' : f_X4_begins_26 (fun v1 v2 M => f_X4_begins_8 k2 v1 v2 M) 200 (nI m) (nI j) (nI (f i)) 0 0 M = _ := c26
        rw [c26']
        unfold bdec
        have hcn := cntK_le_n M kd n
        rw [if_pos (ck (f i) 80 (by omega)), nc (f i) (by omega), ek, if_pos (ck kd 4 (by omega)), nc kd (by omega), elm, ep, if_pos (ck p 8 (by omega)), nc p (by omega), el, l1, el, lm1, elm, h9 kd hkd]
        have skip : ∃ C' M' e', f_X3_beginWaiting_114 (fun v1 C => f_X3_beginWaiting_6 k v1 C) (nI i) C = some (0, C') ∧ f_X4_begins_202 (fun v1 v2 M => f_X4_begins_8 k2 v1 v2 M) (nI m) (nI j) M = some (0, M') ∧ (∀ x, RI C' M' n t u d e' kp fa x) ∧ e' + cntS M 1 n = e + cntS M' 1 n := by
          rw [f_X3_beginWaiting_114, f_X4_begins_202, n1, nI_add, nI_add]
          exact ih k2 (i + 1) (j + 1) C M e h hf1 h9 (Rem_yes hR j2 j1 rfl (fun _ _ _ => rfl)) (by omega) (by omega) (by omega) (by omega) (by omega)
        by_cases hl0 : l = 0
        · subst hl0
          rw [if_pos (show nI 0 ≤ 0 from by decide), if_pos (ck kd 4 (by omega)), if_pos (show nI 0 = 0 from rfl)]
          by_cases hz : lm ≤ cntK M kd n
          · rw [if_pos (np_ hz (by omega) (by omega))]; exact skip
          · rw [if_neg (nn hz (by omega) (by omega))]; exact skip
        · rw [if_neg (show ¬ nI l ≤ 0 from nn (b := 0) (by omega) (by omega) (by omega)), if_pos (ck kd 4 (by omega)), if_neg (show ¬ nI l = 0 from fun z => hl0 ((nIeq (a := l) (b := 0) (by omega) (by omega)).mp z))]
          by_cases hz : lm ≤ cntK M kd n
          · rw [if_pos (np_ hz (by omega) (by omega)), if_pos (np_ hz (by omega) (by omega))]; exact skip
          · rw [if_neg (nn hz (by omega) (by omega)), if_neg (nn hz (by omega) (by omega)), t2]
            obtain ⟨C10, C13, M', y1, y2, y3, y4, y5, y6, y7, y8, y9, y10, y11⟩ := begin_same (fun v1 v2 M => f_X4_begins_8 k2 v1 v2 M) (nI m) (nI j) h x2 hs ep hp ek hkd el hl (by omega) (by omega) (h9 kd hkd) (by omega)
            rw [y1, k_bs, y2, if_pos (ck kd 4 (by omega)), nc kd (by omega), k_ls, y4, h9 kd hkd, n1, nI_add, show (cAF C10 9 (upd (C.2.1 9) kd (nI (cntK M kd n + 1)))).2.1 6 i = nI (f i) from by rw [cA_21, if_neg (by omega), y4]; exact x1, show (cAF C10 9 (upd (C.2.1 9) kd (nI (cntK M kd n + 1)))).1 15 = nI t from y3]
            have y5' : f_X1_write 0 (nI (f i)) (-nI 1) (nI t) (cAF C10 9 (upd (C.2.1 9) kd (nI (cntK M kd n + 1)))) = some (nI e, C13) := y5
            rw [y5', k_bs]
            have so : ∀ x, x ≠ f i → M'.2.1 11 x = M.2.1 11 x := fun x hx => y10 11 x (by omega) (noAt1 hx (by omega))
            have e9 : M'.2.1 9 = M.2.1 9 := by funext z; exact y10 9 z (by omega) (noAt (by omega))
            have e36 : M'.2.1 36 = M.2.1 36 := by funext z; exact y10 36 z (by omega) (noAt (by omega))
            have refe : (k_bind (f_X4_clears (nI (f i)) M) fun _ M10 => (k_let (mA M10 11 (f i) (nI 1)) fun M11 => (k_let (mA M11 20 (f i) (M11.1 0)) fun M12 => (if 0 ≤ ((M12.2.1 8) (f i)).toInt ∧ ((M12.2.1 8) (f i)).toInt < 8 then (k_let (mA M12 12 (f i) ((M12.2.1 5) ((M12.2.1 8) (f i)).toNatClampNeg)) fun M14 => f_X4_begins_153 (fun v1 v2 M => f_X4_begins_8 k2 v1 v2 M) 200 (nI m) (nI j) (nI (f i)) (0 : Int32) M14) else none)))) = f_X4_begins_202 (fun v1 v2 M => f_X4_begins_8 k2 v1 v2 M) (nI m) (nI j) M' := by
              rw [← y6, m_clears (by omega), k_bs, k_bs, k_ls, k_ls, k_ls, k_ls]
              have e8 : (mA (mA (mClr (f i) M) 11 (f i) (nI 1)) 20 (f i) ((mA (mClr (f i) M) 11 (f i) (nI 1)).1 0)).2.1 8 (f i) = nI p := by rw [mA_ne (by omega), mA_ne (by omega), mClr_r (by omega)]; exact ep
              have e5 : (mA (mA (mClr (f i) M) 11 (f i) (nI 1)) 20 (f i) ((mA (mClr (f i) M) 11 (f i) (nI 1)).1 0)).2.1 5 p = nI l := by rw [mA_ne (by omega), mA_ne (by omega), mClr_r (by omega)]; exact el
              rw [e8, if_pos (ck p 8 (by omega)), nc p (by omega), e5, k_ls, k_ls]
              rfl
            rw [refe, f_X3_beginWaiting_114, f_X4_begins_202, n1, nI_add, nI_add]
            have fi : ∀ q, i < q → q < n → f q ≠ f i := fun q h1 h2 => fun e => inj i q h1 h2 e.symm
            obtain ⟨C', M2, e', w1, w2, w3, w4⟩ := ih k2 (i + 1) (j + 1) C13 M' (e + 1) y7 (fun i hi => by rw [y8]; exact hf1 i hi) (fun kk hkk => by
              rw [y9, upd_get, cntK_up hs y11 so e9 n]
              by_cases z : kk = kd
              · subst z; rw [if_pos rfl, if_pos ⟨x2, ek⟩]
              · rw [if_neg z, if_neg (fun q => z ((nIeq (a := kd) (b := kk) (by omega) (by omega)).mp (ek.symm.trans q.2)).symm)]; exact h9 kk hkk) (Rem_yes hR j2 j1 e36 (fun q h1 h2 => so _ (fi q h1 h2))) (by omega) (by omega) (by omega) (by omega) (by omega)
            have := cntS_up hs y11 so n
            rw [if_pos x2] at this
            have fin : e' + cntS M 1 n = e + cntS M2 1 n := by omega
            exact ⟨C', M2, e', w1, w2, w3, fin⟩
      · rw [if_neg hs, f_X3_beginWaiting_114, n1, nI_add]
        exact ih k2 (i + 1) j C M e h hf1 h9 (Rem_no hR hs) (by omega) hk2 (by omega) hj (by omega)
theorem begins_same {C : CS} {M : MS} {n t u d e kp fa : Nat} (h : ∀ x, RI C M n t u d e kp fa x) (he : e + 80 < 512000) : ∃ C' M' e', f_X3_beginWaiting C = some (0, C') ∧ f_X4_begins M = some (0, M') ∧ (∀ x, RI C' M' n t u d e' kp fa x) ∧ e' ≤ e + 36 := by
  obtain ⟨b1, b2, b3, b4⟩ : M.1 7 = nI n ∧ C.1 12 = nI n ∧ gN C = n ∧ n ≤ 80 := h 0
  obtain ⟨f, f1, f2, f3⟩ := h 13
  obtain ⟨m, g, od, s1, s2, s3⟩ := m_sorts (h := 0) (M := M) b4 b1
  have cl : ∀ k, k < 4 → k_fil 4 (0 : Int32) (C.2.1 9) k = nI (cntK M k 0) := fun k hk => if_pos hk
  obtain ⟨f9, c1, c2⟩ := c_cnt_10 (C := C) (M := M) b4 b2 b3 (fun a ha => (h 12 a ha 4).1) (fun a ha => by
    obtain ⟨q1, p, q2, q3⟩ := h 12 a ha 1
    exact ⟨p, q2, by rw [q1]; exact q3, q3⟩) 200 0 _ (by omega) (by omega) cl
  unfold f_X3_beginWaiting f_X3_countBegunOfClasses f_X4_begins
  rw [k_ls, show f_X3_countBegunOfClasses_10 200 0 (cAF C 9 (k_fil 4 0 (C.2.1 9))) = _ from c1, k_bs, s1, k_bs]
  have hR : ∀ x, RI (cAF C 9 f9) (mR M 36 od) n t u d e kp fa x := RI_fr (C := C) (M := M) (fun _ _ _ => rfl) rfl rfl rfl rfl rfl rfl (fun k _ h2 => by rw [cA_21, if_neg h2]) (fun k hk => by rw [mR_get, if_neg (by omega)]) h
  have ex : ∀ r, ∃ p, r < m → p < n ∧ f p = g r := fun r => by
    by_cases z : r < m
    · obtain ⟨p, p1, p2⟩ := f2 (g r) (s3.1 r z).2.1
      exact ⟨p, fun _ => ⟨p1, p2⟩⟩
    · exact ⟨0, fun q => absurd q z⟩
  have ir : ∀ x, ¬ ahd M x x := fun x q => by rw [ahd_iff] at q; omega
  have tr : ∀ x y, ahd M x y → ¬ ahd M y x := fun x y q r => by rw [ahd_iff] at q r; omega
  have inj : ∀ p q, p < q → q < n → f p ≠ f q := fun p q h1 h2 e => by have := f3 p q h1 h2; rw [e] at this; exact ir _ this
  have hps : ∀ r, r < m → (fun r => Classical.choose (ex r)) r < n ∧ f ((fun r => Classical.choose (ex r)) r) = g r := fun r hr => Classical.choose_spec (ex r) hr
  generalize (fun r => Classical.choose (ex r)) = ps at hps
  have hRem : Rem (mR M 36 od) n m 0 0 f ps := by
    refine ⟨fun r _ hr => ⟨?_, by omega, (hps r hr).1, ?_⟩, fun p _ hp hps0 => ?_, fun r r' h1 h2 => ?_⟩
    · show od r = _; rw [(hps r hr).2]; exact (s3.1 r hr).1
    · show M.2.1 11 _ = 0; rw [(hps r hr).2]; exact (s3.1 r hr).2.2
    · obtain ⟨r, r1, r2⟩ := s3.2.1 (f p) (f1 p hp).2 hps0
      refine ⟨r, by omega, r1, ?_⟩
      obtain ⟨q1, q2⟩ := hps r r1
      rw [r2] at q2
      by_cases z : ps r < p
      · exact absurd q2 (inj _ _ z hp)
      · by_cases z2 : p < ps r
        · exact absurd q2.symm (inj _ _ z2 q1)
        · omega
    · obtain ⟨q1, q2⟩ := hps r (by omega)
      obtain ⟨q3, q4⟩ := hps r' h2
      have a1 := s3.2.2 r r' h1 h2
      by_cases z : ps r' < ps r
      · have := f3 _ _ z q1
        rw [q2, q4] at this; exact absurd this (tr _ _ a1)
      · by_cases z2 : ps r = ps r'
        · rw [z2, q4] at q2; rw [q2] at a1; exact absurd a1 (ir _)
        · omega
  obtain ⟨C', M', e', w1, w2, w3, w4⟩ := bg_loop (m := m) (f := f) (ps := ps) b4 inj s2 200 200 0 0 (cAF C 9 f9) (mR M 36 od) e hR f1 (fun k hk => by
    show f9 k = _
    rw [c2 k hk, cntK_c (M := M) (M' := mR M 36 od) rfl rfl]) hRem (by omega) (by omega) (by omega) (by omega) (by omega)
  exact ⟨C', M', e', w1, w2, w3, by have := begun_36 w3; omega⟩
