/-! ===== the fall: the class ===== -/
def lvP (v : Int32) (P : Nat → Int32) : Nat → Int32 := fun j => if j = 12 then v else if j = 17 then -1 else if j = 18 then -1 else if j = 11 then 0 else P j
def lvQ (Q : Nat → Nat → Int32) : Nat → Nat → Int32 := fun j => if j = 5 then k_fil 24 0 (Q 5) else if j = 7 then k_fil 8 0 (Q 7) else if j = 8 then k_fil 8 0 (Q 8) else Q j
theorem lv_P (a : Nat) (v : Int32) (C : CS) : gP (cLeave a v C) a = lvP v (gP C a) := by
  funext j; rw [cLeave_P, if_pos rfl]; rfl
theorem lv_Q (a : Nat) (v : Int32) (C : CS) : gQ (cLeave a v C) a = lvQ (gQ C a) := by
  funext j; rw [cLeave_Q, if_pos rfl]; rfl
/-- an act behind the fall -/
def CN (M : MS) (E e : Nat) (P' : Nat → Int32) (Q' : Nat → Nat → Int32) (P : Nat → Int32) (Q : Nat → Nat → Int32) (a : Nat) : Prop := (VX M E e a ∧ P' = lvP 4 P ∧ Q' = lvQ Q) ∨ (¬ VX M E e a ∧ (M.2.1 11 a = 1 ∨ LX M E e a) ∧ P' = upd (lvP 0 P) 19 (P 19 + 1) ∧ Q' = lvQ Q) ∨ (¬ VX M E e a ∧ ¬ (M.2.1 11 a = 1 ∨ LX M E e a) ∧ SX M E e a ∧ P' = lvP 0 P ∧ Q' = lvQ Q) ∨ (¬ VX M E e a ∧ ¬ (M.2.1 11 a = 1 ∨ LX M E e a) ∧ ¬ SX M E e a ∧ P' = (if M.2.1 11 a = 2 then upd P 12 3 else P) ∧ Q' = Q)
theorem c_isLost {C Cb : CS} {M : MS} {n t u d e kp fa E a : Nat} (h : ∀ i, RI C M n t u d e kp fa i) (hE : kp ≤ E) (hEe : E ≤ e) (ha : a < n) (hN : gN Cb = n) (h21 : Cb.1 21 = nI E) (hP : gP Cb a = gP C a) : ∃ r : Int32, f_X3_isLost (nI a) Cb = some (r, Cb) ∧ (r = 0 ∨ r = 1) ∧ (r = 1 ↔ LX M E e a) := by
  have n80 : n ≤ 80 := (h 0 : M.1 7 = nI n ∧ C.1 12 = nI n ∧ gN C = n ∧ n ≤ 80).2.2.2
  obtain ⟨z1, z2, z3, z4, z5, z6⟩ : M.1 31 = nI e ∧ C.1 21 = nI e ∧ 4 * e ≤ M.2.2 ∧ lnOK M.2.2 ∧ e ≤ gE C ∧ isE (gE C) := h 3
  have hl : M.2.2 ≤ 2048000 := by unfold lnOK at z4; omega
  unfold f_X3_isLost
  rw [nc a (by omega), if_pos ⟨ck a 80 (by omega), by omega⟩, hP, (h 12 a ha 4).1, h21]
  by_cases hs : M.2.1 11 a = 2
  · obtain ⟨i, i1, i2, i3, i4, i5⟩ := h 18 a ha hs
    rw [if_pos hs, i3]
    by_cases z : i < E
    · rw [if_pos ((nIlt (by omega) (by omega)).mpr z)]
      refine ⟨0, rfl, Or.inl rfl, fun q => absurd q (by decide), fun q => ?_⟩
      obtain ⟨-, -, j, j1, j2, j3⟩ := LX_c h hE (by omega) q
      have := (nIeq (a := i) (b := j) (by omega) (by omega)).mp (i3.symm.trans j3); omega
    · rw [if_neg (fun q => z ((nIlt (by omega) (by omega)).mp q))]
      exact ⟨1, rfl, Or.inr rfl, fun _ => ⟨i, by omega, i2, i4, i5⟩, fun _ => rfl⟩
  · rw [if_neg hs]
    exact ⟨0, rfl, Or.inl rfl, fun q => absurd q (by decide), fun q => absurd (LX_c h hE (by omega) q).2.1 hs⟩
theorem c_fallAct {C Cb : CS} {M : MS} {n t u d e kp fa E a : Nat} (h : ∀ i, RI C M n t u d e kp fa i) (hE : kp ≤ E) (hEe : E ≤ e) (ha : a < n) (hN : gN Cb = n) (h21 : Cb.1 21 = nI E) (hP : ∀ b, b ≤ a → gP Cb b = gP C b) (hQ : gQ Cb a = gQ C a) : ∃ C', f_X3_fallAct (nI a) Cb = some (0, C') ∧ CA a Cb C' ∧ CN M E e (gP C' a) (gQ C' a) (gP C a) (gQ C a) a := by
  have n80 : n ≤ 80 := (h 0 : M.1 7 = nI n ∧ C.1 12 = nI n ∧ gN C = n ∧ n ≤ 80).2.2.2
  obtain ⟨z1, z2, z3, z4, z5, z6⟩ : M.1 31 = nI e ∧ C.1 21 = nI e ∧ 4 * e ≤ M.2.2 ∧ lnOK M.2.2 ∧ e ≤ gE C ∧ isE (gE C) := h 3
  have hl : M.2.2 ≤ 2048000 := by unfold lnOK at z4; omega
  have hPa := hP a (Nat.le_refl _)
  have fa34 : ¬ VX M E e a → ∃ C', f_X3_fallAct_34 (nI a) a Cb = some (0, C') ∧ CA a Cb C' ∧ CN M E e (gP C' a) (gQ C' a) (gP C a) (gQ C a) a := by
    intro nV
    have un : (M.2.1 11 a = 1 ∨ LX M E e a) → ∃ C', f_X3_fallAct_50 a Cb = some (0, C') ∧ CA a Cb C' ∧ CN M E e (gP C' a) (gQ C' a) (gP C a) (gQ C a) a := by
      intro q
      unfold f_X3_fallAct_50
      rw [c_undo, k_bs]
      refine ⟨_, rfl, CA_tr CA_leave CA_P, Or.inr (Or.inl ⟨nV, q, ?_, ?_⟩)⟩
      · funext j
        rw [cP_Pa, lv_P, hPa, upd_get]; rfl
      · show gQ (cLeave a 0 Cb) a = _; rw [lv_Q, hQ]
    have up : ¬ (M.2.1 11 a = 1 ∨ LX M E e a) → ¬ SX M E e a → ∃ C', f_X3_fallAct_87 a Cb = some (0, C') ∧ CA a Cb C' ∧ CN M E e (gP C' a) (gQ C' a) (gP C a) (gQ C a) a := by
      intro q1 q2
      unfold f_X3_fallAct_87
      rw [hPa, (h 12 a ha 4).1]
      by_cases z : M.2.1 11 a = 2
      · rw [if_pos z, k_ls]
        refine ⟨_, rfl, CA_P, Or.inr (Or.inr (Or.inr ⟨nV, q1, q2, ?_, hQ⟩))⟩
        rw [if_pos z]; funext j; rw [cP_Pa, hPa, upd_get]
      · rw [if_neg z]
        refine ⟨_, rfl, CA_rf a Cb, Or.inr (Or.inr (Or.inr ⟨nV, q1, q2, ?_, hQ⟩))⟩
        rw [if_neg z]; exact hPa
    unfold f_X3_fallAct_34
    rw [hPa, (h 12 a ha 4).1]
    by_cases s1 : M.2.1 11 a = 1
    · rw [if_pos s1]; exact un (Or.inl s1)
    · rw [if_neg s1]
      obtain ⟨r, e1, e2, e3⟩ := c_isLost h hE hEe ha hN h21 hPa
      rw [e1, k_bs]
      by_cases hr : r = 0
      · have nL : ¬ LX M E e a := fun q => by rw [hr] at e3; exact absurd (e3.mpr q) (by decide)
        rw [if_pos hr, hPa, (h 12 a ha 4).1]
        have nBL : ¬ (M.2.1 11 a = 1 ∨ LX M E e a) := fun q => by rcases q with q | q; exact s1 q; exact nL q
        by_cases s4 : M.2.1 11 a = 4
        · rw [if_pos s4, h21]
          rcases h 21 a ha s4 with g | ⟨i, g1, g2, g3⟩
          · rw [g, if_pos (show (-1 : Int32) < nI E from Int32.lt_iff_toInt_lt.mpr (by rw [nI_toInt (by omega), show ((-1 : Int32)).toInt = -1 from by decide]; omega))]
            refine up nBL (fun q => ?_)
            obtain ⟨-, -, -, j, j1, j2, j3⟩ := SX_c h hE (by omega) q
            exact m1_ne (p := j) (by omega) (j3.symm.trans g)
          · rw [g2]
            by_cases z : i < E
            · rw [if_pos ((nIlt (by omega) (by omega)).mpr z)]
              refine up nBL (fun q => ?_)
              obtain ⟨-, -, -, j, j1, j2, j3⟩ := SX_c h hE (by omega) q
              have := (nIeq (a := i) (b := j) (by omega) (by omega)).mp (g2.symm.trans j3); omega
            · rw [if_neg (fun q => z ((nIlt (by omega) (by omega)).mp q)), c_leave, k_bs]
              obtain ⟨w1, w2⟩ := g3 (by omega)
              exact ⟨_, rfl, CA_leave, Or.inr (Or.inr (Or.inl ⟨nV, nBL, ⟨i, by omega, g1, w1, w2⟩, by rw [lv_P, hPa], by rw [lv_Q, hQ]⟩))⟩
        · rw [if_neg s4]
          exact up nBL (fun q => s4 (SX_c h hE (by omega) q).2.1)
      · rw [if_neg hr]; exact un (Or.inr (e3.mp (e2.resolve_left hr)))
  unfold f_X3_fallAct
  rw [nc a (by omega), if_pos ⟨ck a 80 (by omega), by omega⟩, hPa]
  obtain ⟨g1, g2⟩ := h 12 a ha 3
  rw [g1]
  rcases g2 with g | ⟨p, p1, p2⟩
  · rw [if_pos g]
    exact fa34 (fun ⟨p, p1, _, p3⟩ => m1_ne (p := p) (by omega) (p3.symm.trans g))
  · rw [p2, if_neg (m1_ne (by omega))]
    obtain ⟨r, e1, e2, e3⟩ := c_isLost h hE hEe (show p < n by omega) hN h21 (hP p (by omega))
    rw [e1, k_bs]
    by_cases hr : r = 0
    · rw [if_pos hr]
      refine fa34 (fun ⟨p', q1, q2, q3⟩ => ?_)
      have := (nIeq (a := p) (b := p') (by omega) (by omega)).mp (p2.symm.trans q3)
      subst this
      rw [hr] at e3; exact absurd (e3.mpr q2) (by decide)
    · rw [if_neg hr, c_leave, k_bs]
      exact ⟨_, rfl, CA_leave, Or.inl ⟨⟨p, by omega, e3.mp (e2.resolve_left hr), p2⟩, by rw [lv_P, hPa], by rw [lv_Q, hQ]⟩⟩
def FL (C C5 Cb : CS) (M : MS) (n E e b : Nat) : Prop := cSame C5 Cb ∧ (∀ a, a < b → gP Cb a = gP C a ∧ gQ Cb a = gQ C a) ∧ ∀ a, b ≤ a → a < n → CN M E e (gP Cb a) (gQ Cb a) (gP C a) (gQ C a) a
def cTail (v : Int32) (C : CS) : Option (Int32 × CS) := (k_bind (f_X3_dropUndoneFromRow C) fun _ C7 => (k_bind (f_X3_retellValues C7) fun _ C8 => some (v, C8)))
theorem c_fall_67 {C C5 : CS} {M : MS} {n t u d e kp fa E : Nat} (h : ∀ i, RI C M n t u d e kp fa i) (hE : kp ≤ E) (hEe : E ≤ e) (hN : gN C5 = n) (h21 : C5.1 21 = nI E) (k b : Nat) (Cb : CS) (hk : b < k) (hb : b ≤ n) (hF : FL C C5 Cb M n E e b) : ∃ C', f_X3_fall_67 k (nI (cp (fun a => LX M E e a) n - cp (fun a => LX M E e a) b)) (nI b - 1) Cb = cTail (nI (cp (fun a => LX M E e a) n)) C' ∧ FL C C5 C' M n E e 0 := by
  have n80 : n ≤ 80 := (h 0 : M.1 7 = nI n ∧ C.1 12 = nI n ∧ gN C = n ∧ n ≤ 80).2.2.2
  induction k generalizing b Cb with
  | zero => omega
  | succ k ih =>
    rw [f_X3_fall_67]
    by_cases h0 : b = 0
    · subst h0
      rw [if_pos (by decide)]
      exact ⟨Cb, rfl, hF⟩
    · obtain ⟨b, rfl⟩ : ∃ y, b = y + 1 := ⟨b - 1, by omega⟩
      obtain ⟨f1, f2, f3⟩ := hF
      rw [show nI (b + 1) - 1 = nI b from nI_pred b, if_neg (show ¬ nI b < 0 from fun z => by have := (nIlt (a := b) (b := 0) (by omega) (by omega)).mp z; omega)]
      have cN' : gN Cb = n := f1.2.2.2.2.trans hN
      have c21 : Cb.1 21 = nI E := by rw [f1.1]; exact h21
      obtain ⟨r, e1, e2, e3⟩ := c_isLost h hE hEe (show b < n by omega) cN' c21 (f2 b (by omega)).1
      rw [e1, k_bs]
      obtain ⟨C', w1, w2, w3⟩ := c_fallAct h hE hEe (show b < n by omega) cN' c21 (fun x hx => (f2 x (by omega)).1) (f2 b (by omega)).2
      have hF' : FL C C5 C' M n E e b := by
        refine ⟨cSame_tr f1 w2.1, fun a ha => ?_, fun a h1 h2 => ?_⟩
        · obtain ⟨y1, y2⟩ := w2.2 a (by omega)
          rw [y1, y2]; exact f2 a (by omega)
        · by_cases z : a = b
          · subst z; exact w3
          · obtain ⟨y1, y2⟩ := w2.2 a z
            rw [y1, y2]; exact f3 a (by omega) h2
      have cm := cp_mono (P := fun a => LX M E e a) hb
      by_cases hr : r = 0
      · have nL : ¬ LX M E e b := fun q => by rw [hr] at e3; exact absurd (e3.mpr q) (by decide)
        have c1 := cp_n (P := fun a => LX M E e a) (n := b) nL
        rw [if_pos hr, f_X3_fall_82, w1, k_bs, c1]
        exact ih b C' (by omega) (by omega) hF'
      · have c1 := cp_y (P := fun a => LX M E e a) (n := b) (e3.mp (e2.resolve_left hr))
        rw [if_neg hr, f_X3_fall_82, w1, k_bs]
        have e4 : nI (cp (fun a => LX M E e a) n - cp (fun a => LX M E e a) (b + 1)) + 1 = nI (cp (fun a => LX M E e a) n - cp (fun a => LX M E e a) b) := by
          rw [n1, nI_add]; congr 1; omega
        rw [e4]
        exact ih b C' (by omega) (by omega) hF'
theorem c_drop_4 {C : CS} {n d d' : Nat} {r : Nat → Nat} (hn : n ≤ 80) (hd : d ≤ n) (hd' : d' ≤ d) (h13 : C.1 13 = nI d) (hN : gN C = n) (hr : ∀ i, i < d → C.2.1 7 i = nI (r i) ∧ r i < n) (h3 : ∀ i, i < d' → gP C (r i) 12 = 3) (h3' : ∀ i, d' ≤ i → i < d → gP C (r i) 12 ≠ 3) (k i j : Nat) (hk : d < k + i) (hi : i ≤ d) (hj : j = if i < d' then i else d') : f_X3_dropUndoneFromRow_4 k (nI j) (nI i) C = some (0, cN C 13 (nI d')) := by
  induction k generalizing i j with
  | zero => omega
  | succ k ih =>
    rw [f_X3_dropUndoneFromRow_4, h13]
    by_cases h0 : d ≤ i
    · rw [if_pos (np_ h0 (by omega) (by omega)), k_ls, hj, if_neg (by omega)]
    · obtain ⟨q1, q2⟩ := hr i (by omega)
      rw [if_neg (nn h0 (by omega) (by omega)), if_pos (ck i 80 (by omega)), nc i (by omega), q1, nc (r i) (by omega), if_pos ⟨ck (r i) 80 (by omega), by omega⟩]
      by_cases z : i < d'
      · rw [if_pos z] at hj
        subst hj
        rw [if_pos (h3 j z), if_pos (ck j 80 (by omega)), nc j (by omega), ← q1, upd_id, cAF_id, k_ls, f_X3_dropUndoneFromRow_45, n1, nI_add]
        refine ih (j + 1) (j + 1) (by omega) (by omega) ?_
        by_cases y : j + 1 < d'
        · rw [if_pos y]
        · rw [if_neg y]; omega
      · rw [if_neg z] at hj
        subst hj
        rw [if_neg (h3' i (by omega) (by omega)), f_X3_dropUndoneFromRow_45, n1, nI_add]
        exact ih (i + 1) j (by omega) (by omega) (by rw [if_neg (by omega)])
theorem c_retell_10 {C : CS} {M : MS} {n d : Nat} {r : Nat → Nat} (hn : n ≤ 80) (hd : d ≤ n) (h13 : C.1 13 = nI d) (hN : gN C = n) (hr : ∀ i, i < d → C.2.1 7 i = nI (r i) ∧ r i < n ∧ M.2.1 30 i = nI (r i)) (hD : ∀ i, i < d → (∀ c, c < 24 → (gQ C (r i) 5 c = 2 ↔ M.2.1 23 (24 * r i + c) = 3) ∧ (M.2.1 23 (24 * r i + c) = 3 → gQ C (r i) 6 c = M.2.1 24 (24 * r i + c))) ∧ ∀ c, c < 8 → gQ C (r i) 7 c = M.2.1 25 (8 * r i + c)) (k i : Nat) (F : Nat → Int32) (hk : d < k + i) (hi : i ≤ d) (h1 : ∀ c, c < 24 → F c = vCell M c i) (h2 : ∀ c, c < 8 → F (24 + c) = vCnt M c i) : ∃ F' : Nat → Int32, f_X3_retellValues_10 k (nI i) (cAF C 4 F) = some (0, cAF C 4 F') ∧ (∀ c, c < 24 → F' c = vCell M c d) ∧ ∀ c, c < 8 → F' (24 + c) = vCnt M c d := by
  induction k generalizing i F with
  | zero => omega
  | succ k ih =>
    rw [f_X3_retellValues_10, show (cAF C 4 F).1 13 = nI d from h13]
    by_cases h0 : d ≤ i
    · rw [if_pos (np_ h0 (by omega) (by omega))]
      have : i = d := by omega
      subst this
      exact ⟨F, rfl, h1, h2⟩
    · obtain ⟨q1, q2, q3⟩ := hr i (by omega)
      obtain ⟨D1, D2⟩ := hD i (by omega)
      rw [if_neg (nn h0 (by omega) (by omega)), if_pos (ck i 80 (by omega)), nc i (by omega), show (cAF C 4 F).2.1 7 i = nI (r i) from by rw [cA_21, if_neg (by omega)]; exact q1, nc (r i) (by omega), if_pos ⟨ck (r i) 80 (by omega), by show r i < gN C; omega⟩, c_tell, k_bs, n1, nI_add]
      have e : ∀ g : Nat → Int32, cAF (cAF C 4 F) 4 g = cAF C 4 g := fun g => by simp only [cAF, va_upup]
      rw [e, show (cAF C 4 F).2.1 4 = F from rfl]
      refine ih (i + 1) _ (by omega) (by omega) (fun c hc => ?_) (fun c hc => ?_)
      · simp only [rwm, vCell]
        rw [if_pos (show 0 ≤ c ∧ c < 0 + 32 by omega), q3, nc (r i) (by omega)]
        unfold cNew
        rw [if_pos hc]
        show (if gQ C (r i) 5 c = 2 then gQ C (r i) 6 c else F c) = _
        obtain ⟨y1, y2⟩ := D1 c hc
        by_cases z : M.2.1 23 (24 * r i + c) = 3
        · rw [if_pos (y1.mpr z), if_pos z]; exact y2 z
        · rw [if_neg (fun x => z (y1.mp x)), if_neg z]; exact h1 c hc
      · simp only [rwm, vCnt]
        rw [if_pos (show 0 ≤ 24 + c ∧ 24 + c < 0 + 32 by omega), q3, nc (r i) (by omega)]
        unfold cNew
        rw [if_neg (by omega), show 24 + c - 24 = c by omega]
        show F (24 + c) + gQ C (r i) 7 c = _
        rw [h2 c hc, D2 c hc]
