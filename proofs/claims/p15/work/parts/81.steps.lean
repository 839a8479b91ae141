/-! ===== the steps of a tick ===== -/
def hc (M : MS) (g : Nat → Nat) : Nat → Nat
  | 0 => 0
  | i + 1 => hc M g i + if M.2.1 11 (g i) = 1 ∧ M.2.1 16 (g i) ≠ 0 then 1 else 0
theorem hc_c {M M' : MS} {g : Nat → Nat} (i : Nat) (h : ∀ q, q < i → M'.2.1 11 (g q) = M.2.1 11 (g q) ∧ M'.2.1 16 (g q) = M.2.1 16 (g q)) : hc M' g i = hc M g i := by
  induction i with
  | zero => rfl
  | succ i ih => simp only [hc]; rw [ih (fun q hq => h q (by omega)), (h i (by omega)).1, (h i (by omega)).2]
def TK (C : CS) (M : MS) (n t d e kp fa m : Nat) (g : Nat → Nat) (i : Nat) : Prop := (∀ j, RI C M n t (t + 1) d e kp fa j) ∧ (C.1 14 = nI m ∧ m ≤ 36) ∧ (∀ q, q < m → C.2.1 8 q = nI (g q) ∧ g q < n ∧ M.2.1 36 q = nI (g q)) ∧ (∀ p q, p < q → q < m → g p ≠ g q) ∧ (∀ x, x < n → M.2.1 11 x = 1 → ∃ q, q < m ∧ g q = x) ∧ (∀ q, i ≤ q → q < m → M.2.1 11 (g q) = 1 ∧ gP C (g q) 15 ≠ nI t) ∧ (∀ q, q < i → M.2.1 11 (g q) = 1 → HS C M t (g q)) ∧ e + hc M g i ≤ 72 * t + d + 80 * fa + i
theorem TK_next {C C' : CS} {M M' : MS} {n t d e kp fa m i : Nat} {g : Nat → Nat} (h : TK C M n t d e kp fa m g i) (hi : i < m) (hS : SO (g i) C M n t d e kp fa C' M') : ∃ n' d' e', TK C' M' n' t d' e' kp fa m g (i + 1) := by
  obtain ⟨t1, t2, t3, t4, t5, t6, t7, t8⟩ := h
  obtain ⟨n', d', e', s1, s2, s3, s4, s5, s6, s7, s8, s9, s10⟩ := hS
  have ne : ∀ q, q < m → q ≠ i → g q ≠ g i := fun q hq hqi => by
    by_cases z : q < i
    · exact t4 q i z hi
    · exact fun e => t4 i q (by omega) hq e.symm
  refine ⟨n', d', e', s1, ⟨by rw [s4]; exact t2.1, t2.2⟩, fun q hq => ?_, t4, fun x hx hxs => ?_, fun q hq1 hq2 => ?_, fun q hq hqs => ?_, ?_⟩
  · obtain ⟨x1, x2, x3⟩ := t3 q hq
    exact ⟨by rw [s5]; exact x1, by omega, by rw [s6]; exact x3⟩
  · by_cases z : x < n
    · by_cases y : x = g i
      · exact ⟨i, hi, y.symm⟩
      · rw [(s7 x z y).1 11 (by omega)] at hxs; exact t5 x z hxs
    · rw [s8 x (by omega) hx] at hxs; exact absurd hxs (by decide)
  · have z := s7 (g q) (t3 q hq2).2.1 (ne q hq2 (by omega))
    rw [z.1 11 (by omega), z.2.2]; exact t6 q (by omega) hq2
  · by_cases y : q = i
    · subst y; exact s9 hqs
    · have z := s7 (g q) (t3 q (by omega)).2.1 (ne q (by omega) y)
      rw [z.1 11 (by omega)] at hqs
      unfold HS
      rw [z.1 16 (by omega), z.1 14 (by omega), z.2.2]
      rcases t7 q (by omega) hqs with w | ⟨w1, w2, s, k, w3, w4, w5, w6⟩
      · exact Or.inl w
      · exact Or.inr ⟨w1, w2, s, k, w3, w4, by rw [z.2.1 s w3]; exact w5, w6⟩
  · have e1 : hc M' g i = hc M g i := hc_c i (fun q hq => by
      have z := s7 (g q) (t3 q (by omega)).2.1 (ne q (by omega) (by omega))
      exact ⟨z.1 11 (by omega), z.1 16 (by omega)⟩)
    simp only [hc]
    rw [e1]
    omega
/-- what follows the steps -/
def goTail (K : Int32 → Int32 → MS → Option (Int32 × MS)) (v1 v2 : Int32) (M : MS) : Option (Int32 × MS) := (k_bind (f_X4_breaks M) fun _ M7 => (k_bind (f_X4_begins M7) fun _ M8 => (if ((M8.1 0) - (M8.1 0) / 4 * 4) = 3 then (k_bind (f_X4_keeps M8) fun _ M11 => f_X4_go_84 K v1 v2 M11) else f_X4_go_84 K v1 v2 M8)))
theorem step_loop {K : Int32 → Int32 → MS → Option (Int32 × MS)} {v1 v2 : Int32} {t kp fa m : Nat} {g : Nat → Nat} (k k2 i : Nat) (C : CS) (M : MS) (n d e : Nat) (h : TK C M n t d e kp fa m g i) (hi : i ≤ m) (hk : m < k + i) (hk2 : m < k2 + i) : ∃ C' M' n' d' e', f_X3_stepBegun_6 k (nI i) C = some (0, C') ∧ f_X4_go_39 K k2 v1 v2 (nI m) (nI i) M = goTail K v1 v2 M' ∧ TK C' M' n' t d' e' kp fa m g m := by
  induction k generalizing k2 i C M n d e with
  | zero => omega
  | succ k ih =>
    obtain ⟨k2, rfl⟩ : ∃ x, k2 = x + 1 := ⟨k2 - 1, by omega⟩
    obtain ⟨t1, t2, t3, t4, t5, t6, t7, t8⟩ := id h
    have m36 := t2.2
    rw [f_X3_stepBegun_6, f_X4_go_39, t2.1]
    by_cases h0 : m ≤ i
    · rw [if_pos (np_ h0 (by omega) (by omega)), if_pos (np_ h0 (by omega) (by omega))]
      have : i = m := by omega
      subst this
      exact ⟨C, M, n, d, e, rfl, rfl, h⟩
    · have n80 : n ≤ 80 := (t1 0 : M.1 7 = nI n ∧ C.1 12 = nI n ∧ gN C = n ∧ n ≤ 80).2.2.2
      obtain ⟨dd1, dd2, dd3⟩ : M.1 29 = nI d ∧ C.1 13 = nI d ∧ d ≤ n := t1 2
      obtain ⟨tt1, tt2, tt3⟩ : M.1 0 = nI t ∧ C.1 15 = nI t ∧ t ≤ 5000 := t1 1
      obtain ⟨-, -, -, ff⟩ : C.1 16 = M.1 34 ∧ C.1 17 = nI fa ∧ M.1 35 = nI fa ∧ fa ≤ 512 := t1 5
      obtain ⟨x1, x2, x3⟩ := t3 i (by omega)
      obtain ⟨y1, y2⟩ := t6 i (Nat.le_refl _) (by omega)
      rw [if_neg (nn h0 (by omega) (by omega)), if_neg (nn h0 (by omega) (by omega)), if_pos (ck i 36 (by omega)), if_pos (ck i 80 (by omega)), nc i (by omega), x1, x3]
      obtain ⟨C', M', z1, z2, z3⟩ := take_same t1 t2.1 t2.2 (fun q hq => ⟨(t3 q hq).1, (t3 q hq).2.1⟩) t5 x2 y1 y2 (by omega)
      rw [z1, z2, k_bs, k_bs, n1, nI_add]
      obtain ⟨n', d', e', z4⟩ := TK_next h (by omega) z3
      exact ih k2 (i + 1) C' M' n' d' e' z4 (by omega) (by omega) (by omega)
/-- the steps, from the tick's start -/
theorem steps_same {K : Int32 → Int32 → MS → Option (Int32 × MS)} {v1 v2 : Int32} {C : CS} {M : MS} {n t d e kp fa : Nat} (h : ∀ i, RI C M n t t d e kp fa i) (he : e ≤ 72 * t + d + 80 * fa) : ∃ C' M' n' d' e' m g, f_X3_stepBegun C = some (0, C') ∧ (k_bind (f_X4_sorts (1 : Int32) M) fun r5 M5 => f_X4_go_39 K 300 v1 v2 r5 (0 : Int32) M5) = goTail K v1 v2 M' ∧ TK C' M' n' t d' e' kp fa m g m := by
  obtain ⟨b1, b2, b3, b4⟩ : M.1 7 = nI n ∧ C.1 12 = nI n ∧ gN C = n ∧ n ≤ 80 := h 0
  obtain ⟨tt1, tt2, tt3⟩ : M.1 0 = nI t ∧ C.1 15 = nI t ∧ t ≤ 5000 := h 1
  obtain ⟨m, run, g, c1, c2, c3⟩ := c_gather h
  obtain ⟨m2, f, od, d1, d2, d3⟩ := m_sorts (h := 1) (M := M) b4 b1
  obtain ⟨u1, u2⟩ := Srt_uni c3 d3
  subst u1
  unfold f_X3_stepBegun
  rw [c1, d1, k_bs, k_bs]
  have hT : TK (cN (cAF C 8 run) 14 (nI m)) (mR M 36 od) n t d e kp fa m g 0 := by
    refine ⟨RI_u (u := t) (by omega) (RI_fr (C := C) (M := M) (fun k h1 h2 => by rw [cN_1, if_neg h1]; rfl) rfl rfl rfl rfl rfl rfl (fun k h1 h2 => by show (cAF C 8 run).2.1 k = _; rw [cA_21, if_neg h1]) (fun k hk => by rw [mR_get, if_neg (by omega)]) h), ⟨rfl, c2⟩, fun q hq => ⟨(c3.1 q hq).1, (c3.1 q hq).2.1, ?_⟩, fun p q hp hq e => ?_, fun x hx hxs => c3.2.1 x hx hxs, fun q _ hq => ⟨(c3.1 q hq).2.2, fun e => ?_⟩, fun q hq => by omega, ?_⟩
    · show od q = _; rw [(d3.1 q hq).1, u2 q hq]
    · have := c3.2.2 p q hp hq; rw [e, ahd_iff] at this; omega
    · have e : gP C (g q) 15 = nI t := e
      rcases h 12 (g q) (c3.1 q hq).2.1 9 with w | ⟨s, w1, w2⟩
      · rw [w] at e
        have := congrArg Int32.toInt e
        rw [nI_toInt (by omega), show ((-1 : Int32)).toInt = -1 from by decide] at this
        omega
      · have := (nIeq (a := s) (b := t) (by omega) (by omega)).mp (w2.symm.trans e); omega
    · show e + 0 ≤ _; omega
  obtain ⟨C', M', n', d', e', z1, z2, z3⟩ := step_loop (K := K) (v1 := v1) (v2 := v2) 200 300 0 _ _ n d e hT (by omega) (by omega) (by omega)
  exact ⟨C', M', n', d', e', m, g, z1, z2, z3⟩
