/-! ===== the class: what an update changes ===== -/
theorem cP_P (C : CS) (n k m j : Nat) (v : Int32) : gP (cP C n k v) m j = if m = n ∧ j = k then v else gP C m j := by
  show va_up (gP C) n (upd (gP C n) k v) m j = _
  simp only [va_up]
  by_cases h : m = n
  · rw [if_pos h, upd_get]
    by_cases h2 : j = k
    · rw [if_pos h2, if_pos ⟨h, h2⟩]
    · rw [if_neg h2, if_neg (fun q => h2 q.2), h]
  · rw [if_neg h, if_neg (fun q => h q.1)]
theorem cP_Q (C : CS) (n k : Nat) (v : Int32) : gQ (cP C n k v) = gQ C := rfl
theorem cP_1 (C : CS) (n k : Nat) (v : Int32) : (cP C n k v).1 = C.1 := rfl
theorem cP_21 (C : CS) (n k : Nat) (v : Int32) : (cP C n k v).2.1 = C.2.1 := rfl
theorem cP_L (C : CS) (n k : Nat) (v : Int32) : (cP C n k v).2.2.1 = C.2.2.1 := rfl
theorem cP_N (C : CS) (n k : Nat) (v : Int32) : gN (cP C n k v) = gN C := rfl
theorem cP_E (C : CS) (n k : Nat) (v : Int32) : gE (cP C n k v) = gE C := rfl
theorem cQ_Q (C : CS) (n k m j : Nat) (f : Nat → Int32) : gQ (cQF C n k f) m j = if m = n ∧ j = k then f else gQ C m j := by
  show va_up (gQ C) n (va_up (gQ C n) k f) m j = _
  simp only [va_up]
  by_cases h : m = n
  · rw [if_pos h]
    show (if j = k then f else gQ C n j) = _
    by_cases h2 : j = k
    · rw [if_pos h2, if_pos ⟨h, h2⟩]
    · rw [if_neg h2, if_neg (fun q => h2 q.2), h]
  · rw [if_neg h, if_neg (fun q => h q.1)]
theorem cQ_P (C : CS) (n k : Nat) (f : Nat → Int32) : gP (cQF C n k f) = gP C := rfl
theorem cQ_1 (C : CS) (n k : Nat) (f : Nat → Int32) : (cQF C n k f).1 = C.1 := rfl
theorem cQ_21 (C : CS) (n k : Nat) (f : Nat → Int32) : (cQF C n k f).2.1 = C.2.1 := rfl
theorem cQ_L (C : CS) (n k : Nat) (f : Nat → Int32) : (cQF C n k f).2.2.1 = C.2.2.1 := rfl
theorem cQ_N (C : CS) (n k : Nat) (f : Nat → Int32) : gN (cQF C n k f) = gN C := rfl
theorem cQ_E (C : CS) (n k : Nat) (f : Nat → Int32) : gE (cQF C n k f) = gE C := rfl
theorem cN_1 (C : CS) (k j : Nat) (v : Int32) : (cN C k v).1 j = if j = k then v else C.1 j := rfl
theorem cN_2 (C : CS) (k : Nat) (v : Int32) : (cN C k v).2 = C.2 := rfl
theorem cA_1 (C : CS) (k : Nat) (f : Nat → Int32) : (cAF C k f).1 = C.1 := rfl
theorem cA_21 (C : CS) (k j : Nat) (f : Nat → Int32) : (cAF C k f).2.1 j = if j = k then f else C.2.1 j := rfl
theorem cA_22 (C : CS) (k : Nat) (f : Nat → Int32) : (cAF C k f).2.2 = C.2.2 := rfl
/-- what an act's own update leaves alone -/
def cSame (C C' : CS) : Prop := C'.1 = C.1 ∧ C'.2.1 = C.2.1 ∧ C'.2.2.1 = C.2.2.1 ∧ gE C' = gE C ∧ gN C' = gN C
theorem cSame_rf (C : CS) : cSame C C := ⟨rfl, rfl, rfl, rfl, rfl⟩
theorem cSame_tr {A B C : CS} (h1 : cSame A B) (h2 : cSame B C) : cSame A C := ⟨h2.1.trans h1.1, h2.2.1.trans h1.2.1, h2.2.2.1.trans h1.2.2.1, h2.2.2.2.1.trans h1.2.2.2.1, h2.2.2.2.2.trans h1.2.2.2.2⟩
theorem cSame_P (C : CS) (n k : Nat) (v : Int32) : cSame C (cP C n k v) := ⟨rfl, rfl, rfl, rfl, rfl⟩
theorem cSame_Q (C : CS) (n k : Nat) (f : Nat → Int32) : cSame C (cQF C n k f) := ⟨rfl, rfl, rfl, rfl, rfl⟩
/-- leave -/
def cLeave (n : Nat) (v : Int32) (C : CS) : CS :=
  let C4 := cP (cP (cP (cP C n 12 v) n 17 (-1)) n 18 (-1)) n 11 0
  let C5 := cQF C4 n 5 (k_fil 24 0 (gQ C4 n 5))
  let C6 := cQF C5 n 7 (k_fil 8 0 (gQ C5 n 7))
  cQF C6 n 8 (k_fil 8 0 (gQ C6 n 8))
theorem c_leave (n : Nat) (v : Int32) (C : CS) : f_X0_leave n v C = some (0, cLeave n v C) := rfl
theorem cLeave_same (n : Nat) (v : Int32) (C : CS) : cSame C (cLeave n v C) := ⟨rfl, rfl, rfl, rfl, rfl⟩
theorem cLeave_P (n m j : Nat) (v : Int32) (C : CS) : gP (cLeave n v C) m j = if m = n then (if j = 12 then v else if j = 17 then -1 else if j = 18 then -1 else if j = 11 then 0 else gP C n j) else gP C m j := by
  show gP (cP (cP (cP (cP C n 12 v) n 17 (-1)) n 18 (-1)) n 11 0) m j = _
  simp only [cP_P]
  by_cases h : m = n
  · subst h
    simp only [true_and, if_true]
    by_cases h1 : j = 11
    · subst h1; simp
    · rw [if_neg h1]
      by_cases h2 : j = 18
      · subst h2; simp
      · rw [if_neg h2]
        by_cases h3 : j = 17
        · subst h3; simp
        · rw [if_neg h3]
          by_cases h4 : j = 12
          · rw [if_pos h4, if_pos h4]
          · rw [if_neg h4, if_neg h4, if_neg h3, if_neg h2, if_neg h1]
  · simp [h]
theorem cLeave_Q (n m j : Nat) (v : Int32) (C : CS) : gQ (cLeave n v C) m j = if m = n then (if j = 5 then k_fil 24 0 (gQ C n 5) else if j = 7 then k_fil 8 0 (gQ C n 7) else if j = 8 then k_fil 8 0 (gQ C n 8) else gQ C n j) else gQ C m j := by
  simp only [cLeave, cQ_Q, cP_Q]
  by_cases h : m = n
  · subst h
    simp only [true_and, if_true]
    by_cases h1 : j = 8
    · subst h1; simp
    · rw [if_neg h1]
      by_cases h2 : j = 7
      · subst h2; simp
      · rw [if_neg h2]
        by_cases h3 : j = 5
        · rw [if_pos h3, if_pos h3]
        · rw [if_neg h3, if_neg h3, if_neg h2, if_neg h1]
  · simp [h]
theorem c_undo (n : Nat) (C : CS) : f_X0_undo n C = some (0, cP (cLeave n 0 C) n 19 (gP (cLeave n 0 C) n 19 + 1)) := rfl
/-- how long the log's row can be -/
def isE (l : Nat) : Prop := l = 256 ∨ l = 512 ∨ l = 1024 ∨ l = 2048 ∨ l = 4096 ∨ l = 8192 ∨ l = 16384 ∨ l = 32768 ∨ l = 65536 ∨ l = 131072 ∨ l = 262144 ∨ l = 524288 ∨ l = 1048576
def enc (k a c t : Int32) : Int32 := (((t <<< (15 &&& 31)) ||| ((c + 1) <<< (10 &&& 31))) ||| (a <<< (3 &&& 31))) ||| k
/-- an entry more in the class's log: what changes -/
def cLog (C C' : CS) (e : Nat) (v : Int32) : Prop := C'.1 = upd C.1 21 (nI (e + 1)) ∧ (∀ k, k ≠ 20 → C'.2.1 k = C.2.1 k) ∧ (∀ j, j < e → C'.2.1 20 j = C.2.1 20 j) ∧ C'.2.1 20 e = v ∧ C'.2.2.1 = C.2.2.1 ∧ gN C' = gN C ∧ gP C' = gP C ∧ gQ C' = gQ C ∧ isE (gE C') ∧ e + 1 ≤ gE C'
theorem c_write_41 {C : CS} {e : Nat} {k a c t : Int32} (he : C.1 21 = nI e) (h : e < gE C) (hE : isE (gE C)) : ∃ C' : CS, f_X1_write_41 k a c t C = some (nI e, C') ∧ cLog C C' e (enc k a c t) := by
  have hE2 := hE
  unfold isE at hE2
  unfold f_X1_write_41
  rw [he, if_pos (ck e (gE C) (by omega)), nc e (by omega), k_ls, k_ls]
  have e1 : (cAF C 20 (upd (C.2.1 20) e (enc k a c t))).1 21 = nI e := he
  show ∃ C' : CS, some ((cN (cAF C 20 (upd (C.2.1 20) e (enc k a c t))) 21 ((cAF C 20 (upd (C.2.1 20) e (enc k a c t))).1 21 + 1)).1 21 - 1, cN (cAF C 20 (upd (C.2.1 20) e (enc k a c t))) 21 ((cAF C 20 (upd (C.2.1 20) e (enc k a c t))).1 21 + 1)) = some (nI e, C') ∧ _
  rw [e1, n1, nI_add, cN_1, if_pos rfl, show nI (e + 1) - nI 1 = nI e from nI_pred e]
  refine ⟨_, rfl, rfl, fun k hk => ?_, fun j hj => ?_, ?_, rfl, rfl, rfl, rfl, hE, by show e + 1 ≤ gE C; omega⟩
  · show (cAF C 20 _).2.1 k = _; rw [cA_21, if_neg hk]
  · show upd (C.2.1 20) e _ j = _; rw [pk_un (by omega)]
  · show upd (C.2.1 20) e _ e = _; rw [pk_us]
theorem c_write {C : CS} {e : Nat} {k a c t : Int32} (he : C.1 21 = nI e) (h : e ≤ gE C) (hE : isE (gE C)) (hb : e < 1048576) : ∃ C' : CS, f_X1_write k a c t C = some (nI e, C') ∧ cLog C C' e (enc k a c t) := by
  have hE2 := hE
  unfold isE at hE2
  unfold f_X1_write
  rw [he, if_pos (show nI e < 1048576 from (nIlt (a := e) (b := 1048576) (by omega) (by omega)).mpr hb)]
  by_cases h2 : e < gE C
  · rw [if_pos ((nIlt (by omega) (by omega)).mpr h2)]
    exact c_write_41 he h2 hE
  · rw [if_neg (fun q => h2 ((nIlt (by omega) (by omega)).mp q)), if_pos (by omega), k_ls]
    obtain ⟨C', g1, g2⟩ := c_write_41 (C := cEF C (va_cpy (C.2.1 20) (fun _ => 0) 0 0 (gE C))) (e := e) (k := k) (a := a) (c := c) (t := t) he (by show e < 2 * gE C; omega) (by show isE (2 * gE C); unfold isE; omega)
    obtain ⟨q1, q2, q3, q4, q5, q6, q7, q8, q9, q10⟩ := g2
    refine ⟨C', g1, q1, fun k hk => ?_, fun j hj => ?_, q4, q5, q6, q7, q8, q9, q10⟩
    · rw [q2 k hk]; exact if_neg hk
    · rw [q3 j hj]
      show va_cpy (C.2.1 20) (fun _ => 0) 0 0 (gE C) j = _
      rw [pk_cpy_in (f := C.2.1 20) (g := fun _ => 0) (sp := 0) (dp := 0) (n := gE C) (j := j) (by omega) (by omega), Nat.zero_add, Nat.sub_zero]
/-- where the new act comes in the order -/
theorem c_admit_40 {C : CS} {rk : Int32} {od : Nat → Int32} {f : Nat → Nat} {n : Nat} (hn : n < 80) (hN : n < gN C) (h12 : C.1 12 = nI n) (hod : ∀ i, i < n → od i = nI (f i) ∧ f i < n) (fu k : Nat) (hf : k < fu) (hk : k ≤ n) : ∃ k', k' ≤ k ∧ f_X3_admit_40 fu rk (nI n) (nI k) (cAF C 6 (shf od k n)) = some (nI n, cN (cAF C 6 (upd (shf od k' n) k' (nI n))) 12 (nI (n + 1))) ∧ (∀ i, k' ≤ i → i < k → ¬ gP C (f i) 2 ≤ rk) ∧ (k' = 0 ∨ gP C (f (k' - 1)) 2 ≤ rk) := by
  induction fu generalizing k with
  | zero => omega
  | succ fu ih =>
    rw [f_X3_admit_40]
    have stop : f_X3_admit_88 (nI n) (nI k) (cAF C 6 (shf od k n)) = some (nI n, cN (cAF C 6 (upd (shf od k n) k (nI n))) 12 (nI (n + 1))) := by
      rw [f_X3_admit_88, if_pos (ck k 80 (by omega)), nc k (by omega), k_ls, k_ls]
      have e1 : cAF (cAF C 6 (shf od k n)) 6 (upd ((cAF C 6 (shf od k n)).2.1 6) k (nI n)) = cAF C 6 (upd (shf od k n) k (nI n)) := by
        simp only [cAF, va_upup]; rfl
      rw [e1]
      show some (nI n, cN (cAF C 6 (upd (shf od k n) k (nI n))) 12 (C.1 12 + 1)) = _
      rw [h12, n1, nI_add]
    by_cases h0 : k = 0
    · subst h0
      rw [n0, if_pos (np_ (Nat.le_refl 0) (by omega) (by omega))]
      exact ⟨0, Nat.le_refl _, stop, fun i _ hi => by omega, Or.inl rfl⟩
    · obtain ⟨d, rfl⟩ : ∃ d, k = d + 1 := ⟨k - 1, by omega⟩
      have hsd : (cAF C 6 (shf od (d + 1) n)).2.1 6 d = nI (f d) := by
        rw [cA_21, if_pos rfl]; simp only [shf]; rw [if_neg (by omega)]; exact (hod d (by omega)).1
      have hfd := (hod d (by omega)).2
      rw [n0, if_neg (nn (by omega) (by omega) (by omega)), n1, show nI (d + 1) - nI 1 = nI d from nI_pred d, if_pos (ck d 80 (by omega)), nc d (by omega), hsd, nc (f d) (by omega), if_pos ⟨ck (f d) 80 (by omega), by show f d < gN C; omega⟩]
      by_cases hr : gP C (f d) 2 ≤ rk
      · rw [if_pos (show gP (cAF C 6 (shf od (d + 1) n)) (f d) 2 ≤ rk from hr)]
        exact ⟨d + 1, Nat.le_refl _, stop, fun i _ hi => by omega, Or.inr hr⟩
      · rw [if_neg (show ¬ gP (cAF C 6 (shf od (d + 1) n)) (f d) 2 ≤ rk from hr), if_pos (ck (d + 1) 80 (by omega)), nc (d + 1) (by omega), k_ls]
        have e1 : cAF (cAF C 6 (shf od (d + 1) n)) 6 (upd ((cAF C 6 (shf od (d + 1) n)).2.1 6) (d + 1) (nI (f d))) = cAF C 6 (shf od d n) := by
          have : upd (shf od (d + 1) n) (d + 1) (nI (f d)) = shf od d n := by rw [← (hod d (by omega)).1]; exact shf_s (by omega)
          simp only [cAF, va_upup]
          rw [← this]; rfl
        rw [e1]
        obtain ⟨k', g1, g2, g3, g4⟩ := ih d (by omega) (by omega)
        refine ⟨k', by omega, g2, fun i hi1 hi2 => ?_, g4⟩
        by_cases hid : i = d
        · subst hid; exact hr
        · exact g3 i hi1 (by omega)
theorem cAF_id (C : CS) (k : Nat) : cAF C k (C.2.1 k) = C := by
  simp only [cAF, va_upid]
theorem c_admit_full {C : CS} {x y z w : Int32} (h : C.1 12 = nI 80) : f_X3_admit x y z w C = some (-1, C) := by
  unfold f_X3_admit
  rw [h, if_neg (by decide)]
/-- an act more -/
theorem c_admit {C : CS} {x y z w : Int32} {f : Nat → Nat} {n : Nat} (hn : n < 80) (hN : gN C = n) (h12 : C.1 12 = nI n) (hod : ∀ i, i < n → C.2.1 6 i = nI (f i) ∧ f i < n) : ∃ k', k' ≤ n ∧ f_X3_admit x y z w C = some (nI n, cN (cAF (cAdd C (kAct x y z w) (fun _ _ => 0)) 6 (upd (shf (C.2.1 6) k' n) k' (nI n))) 12 (nI (n + 1))) ∧ (∀ i, k' ≤ i → i < n → ¬ gP C (f i) 2 ≤ z) ∧ (k' = 0 ∨ gP C (f (k' - 1)) 2 ≤ z) := by
  unfold f_X3_admit
  rw [h12, if_pos (show nI n < 80 from (nIlt (a := n) (b := 80) (by omega) (by omega)).mpr hn), if_pos ⟨by omega, by rw [nc n (by omega), hN], (ck n 80 (by omega)).1, (ck n 80 (by omega)).2⟩, k_ls]
  obtain ⟨k', g1, g2, g3, g4⟩ := c_admit_40 (C := cAdd C (kAct x y z w) (fun _ _ => 0)) (rk := z) (od := C.2.1 6) (f := f) (n := n) hn (by show n < gN C + 1; omega) h12 hod 200 n (by omega) (Nat.le_refl _)
  rw [shf_m] at g2
  have e1 : cAF (cAdd C (kAct x y z w) (fun _ _ => 0)) 6 (C.2.1 6) = cAdd C (kAct x y z w) (fun _ _ => 0) := cAF_id (cAdd C (kAct x y z w) (fun _ _ => 0)) 6
  rw [e1] at g2
  have hP : ∀ i, i < n → gP (cAdd C (kAct x y z w) (fun _ _ => 0)) (f i) 2 = gP C (f i) 2 := fun i hi => by
    show va_up (gP C) (gN C) _ (f i) 2 = _
    have := (hod i hi).2
    simp only [va_up]; rw [if_neg (by omega)]
  refine ⟨k', g1, g2, fun i h1 h2 => by rw [← hP i h2]; exact g3 i h1 h2, ?_⟩
  rcases g4 with q | q
  · exact Or.inl q
  · by_cases hk : k' = 0
    · exact Or.inl hk
    · right; rw [← hP (k' - 1) (by omega)]; exact q
