/-- the STEP at which an act is; its cell -/
def stp (M : MS) (x : Nat) : Int32 := M.2.1 13 (12 * x + (M.2.1 14 x).toNatClampNeg)
def cel (s : Int32) : Int32 := s / 100 - s / 100 / 100 * 100
def waitsP (M : MS) (x o : Nat) : Prop := M.2.1 11 x = 1 ∧ M.2.1 16 x ≠ 0 ∧ stp M x / 10000 ≠ 6 ∧ barsP M o x (cel (stp M x)).toNatClampNeg (if stp M x / 10000 = 3 then 1 else 0)
/-- an act that is held is held at a counter or at a cell -/
def HeldOK (M : MS) (x : Nat) : Prop := M.2.1 11 x = 1 → M.2.1 16 x ≠ 0 → ∃ t, t < 12 ∧ M.2.1 14 x = nI t ∧ (stp M x / 10000 = 6 ∨ ∃ c, c < 24 ∧ cel (stp M x) = nI c)
theorem m_waitsFor {M : MS} {x o : Nat} (hx : x < 80) (ho : o < 80) (hH : HeldOK M x) : ∃ r : Int32, f_X4_waitsFor (nI x) (nI o) M = some (r, M) ∧ (r = 0 ∨ r = 1) ∧ (r = 1 ↔ waitsP M x o) := by
  unfold f_X4_waitsFor waitsP
  rw [if_pos (ck x 80 (by omega)), nc x (by omega)]
  by_cases h1 : M.2.1 11 x = 1
  · rw [if_pos h1]
    by_cases h2 : M.2.1 16 x = 0
    · rw [if_pos h2]; exact ⟨0, rfl, Or.inl rfl, by simp [h2]⟩
    · obtain ⟨t, ht, et, hs⟩ := hH h1 h2
      have es : stp M x = M.2.1 13 (12 * x + t) := by unfold stp; rw [et, nc t (by omega)]
      rw [if_neg h2, m_stepOf hx et ht, k_bs, m_stepOf hx et ht, k_bs, ← es]
      by_cases h3 : stp M x / 10000 = 6
      · rw [if_pos h3]; exact ⟨0, rfl, Or.inl rfl, by simp [h3]⟩
      · rw [if_neg h3]
        obtain ⟨c, hc, ec⟩ := hs.resolve_left h3
        have ec2 : stp M x / 100 - stp M x / 100 / 100 * 100 = nI c := ec
        rw [ec2, ec, nc c (by omega)]
        have fin : ∀ w : Int32, ∃ r : Int32, f_X4_waitsFor_65 w (nI c) (nI x) (nI o) M = some (r, M) ∧ (r = 0 ∨ r = 1) ∧ (r = 1 ↔ barsP M o x c w) := by
          intro w
          obtain ⟨r, e1, e2, e3⟩ := m_bars (M := M) (o := o) (a := x) (c := c) (w := w) ho hx hc
          rw [f_X4_waitsFor_65, e1, k_bs]
          by_cases hr : r = 0
          · rw [if_pos hr]; exact ⟨0, rfl, Or.inl rfl, by rw [← e3, hr]⟩
          · rw [if_neg hr]; exact ⟨1, rfl, Or.inr rfl, by rw [← e3]; simp [e2.resolve_left hr]⟩
        by_cases h4 : stp M x / 10000 = 3
        · rw [if_pos h4, if_pos h4]
          obtain ⟨r, e1, e2, e3⟩ := fin 1
          exact ⟨r, e1, e2, e3.trans ⟨fun q => ⟨h1, h2, h3, q⟩, fun q => q.2.2.2⟩⟩
        · rw [if_neg h4, if_neg h4]
          obtain ⟨r, e1, e2, e3⟩ := fin 0
          exact ⟨r, e1, e2, e3.trans ⟨fun q => ⟨h1, h2, h3, q⟩, fun q => q.2.2.2⟩⟩
  · rw [if_neg h1]; exact ⟨0, rfl, Or.inl rfl, by simp [h1]⟩
/-- how many of the first n are 1 -/
def cnt (f : Nat → Int32) : Nat → Nat
  | 0 => 0
  | n + 1 => cnt f n + if f n = 1 then 1 else 0
theorem cnt_le (f : Nat → Int32) (n : Nat) : cnt f n ≤ n := by
  induction n with
  | zero => exact Nat.le_refl _
  | succ n ih => simp only [cnt]; split <;> omega
theorem cnt_ge {f : Nat → Int32} {o n : Nat} {v : Int32} (h : n ≤ o) : cnt (upd f o v) n = cnt f n := by
  induction n with
  | zero => rfl
  | succ n ih => simp only [cnt]; rw [ih (by omega), pk_un (by omega)]
theorem cnt_up {f : Nat → Int32} {o n : Nat} (h : o < n) (hf : f o ≠ 1) : cnt (upd f o 1) n = cnt f n + 1 := by
  induction n with
  | zero => omega
  | succ n ih =>
    simp only [cnt]
    by_cases e : o = n
    · subst e; rw [cnt_ge (Nat.le_refl _), pk_us, if_pos rfl, if_neg hf]
    · rw [ih (by omega), pk_un (fun q => e q.symm)]; omega
theorem cnt_0 {f : Nat → Int32} {n : Nat} (h : ∀ x, x < n → f x = 0) : cnt f n = 0 := by
  induction n with
  | zero => rfl
  | succ n ih => simp only [cnt]; rw [ih (fun x hx => h x (by omega)), h n (by omega), if_neg (by decide)]
/-- x waits for y, both acts -/
def wE (M : MS) (n : Nat) (x y : Nat) : Prop := x < n ∧ y < n ∧ waitsP M x y
def BFI (M : MS) (n a many k : Nat) (rch que : Nat → Int32) (f : Nat → Nat) : Prop := (∀ i, i < many → que i = nI (f i) ∧ f i < n) ∧ f 0 = a ∧ (∀ x, x < n → rch x = 0 ∨ rch x = 1) ∧ many = 1 + cnt rch n ∧ (∀ x, x < n → rch x = 1 → ∃ i, i < many ∧ f i = x) ∧ (∀ x, x < n → rch x = 1 → Relation.TransGen (wE M n) a x) ∧ (∀ i, 0 < i → i < many → rch (f i) = 1) ∧ ∀ i, i < k → ∀ y, wE M n (f i) y → rch y = 1
theorem m_ring_42 {M : MS} {n a : Nat} (hn80 : n ≤ 80) (hn : M.1 7 = nI n) (hH : ∀ x, x < n → HeldOK M x) (K : Int32 → Int32 → Int32 → MS → Option (Int32 × MS)) (k : Nat) (fu many o : Nat) (rch que : Nat → Int32) (f : Nat → Nat) (hfu : n < fu + o) (ho : o ≤ n) (hk : k < many) (hka : k = 0 ∨ rch (f k) = 1) (B : BFI M n a many k rch que f) (hO : ∀ y, y < o → waitsP M (f k) y → rch y = 1) : ∃ (many' : Nat) (rch' que' : Nat → Int32) (f' : Nat → Nat), f_X4_isInRing_42 K fu (nI a) (nI many) (nI k) (nI o) (mR (mR M 37 rch) 38 que) = K (nI a) (nI many') (nI (k + 1)) (mR (mR M 37 rch') 38 que') ∧ k < many' ∧ BFI M n a many' (k + 1) rch' que' f' := by
  induction fu generalizing many o rch que f with
  | zero => omega
  | succ fu ih =>
    obtain ⟨B1, B2, B3, B4, B5, B6, B8, B7⟩ := id B
    have hcl := cnt_le rch n
    have hfk := (B1 k hk).2
    rw [f_X4_isInRing_42]
    have g7 : (mR (mR M 37 rch) 38 que).1 7 = nI n := hn
    have gq : (mR (mR M 37 rch) 38 que).2.1 38 = que := rfl
    have gr : (mR (mR M 37 rch) 38 que).2.1 37 = rch := rfl
    have gh : (mR (mR M 37 rch) 38 que).2.1 16 = M.2.1 16 := rfl
    rw [g7, gq, gr, gh]
    have stop : (∀ y, wE M n (f k) y → rch y = 1) → ∃ (many' : Nat) (rch' que' : Nat → Int32) (f' : Nat → Nat), f_X4_isInRing_118 K (nI a) (nI many) (nI k) (mR (mR M 37 rch) 38 que) = K (nI a) (nI many') (nI (k + 1)) (mR (mR M 37 rch') 38 que') ∧ k < many' ∧ BFI M n a many' (k + 1) rch' que' f' := by
      intro hc
      refine ⟨many, rch, que, f, by rw [f_X4_isInRing_118, n1, nI_add], hk, B1, B2, B3, B4, B5, B6, B8, fun i hi => ?_⟩
      by_cases e : i = k
      · rw [e]; exact hc
      · exact B7 i (by omega)
    by_cases h0 : n ≤ o
    · rw [if_pos (np_ h0 (by omega) (by omega))]
      exact stop (fun y hy => hO y (by have := hy.2.1; omega) hy.2.2)
    · rw [if_neg (nn h0 (by omega) (by omega)), if_pos (ck k 81 (by omega)), nc k (by omega), (B1 k hk).1, if_pos (ck (f k) 80 (by omega)), nc (f k) (by omega)]
      by_cases h1 : M.2.1 16 (f k) = 0
      · rw [if_pos h1]; exact stop (fun y hy => absurd h1 hy.2.2.2.1)
      · rw [if_neg h1, if_pos (ck o 80 (by omega)), nc o (by omega)]
        have next : ∀ (many : Nat) (rch que : Nat → Int32) (f2 : Nat → Nat), f2 k = f k → k < many → (k = 0 ∨ rch (f2 k) = 1) → BFI M n a many k rch que f2 → (∀ y, y < o + 1 → waitsP M (f2 k) y → rch y = 1) → ∃ (many' : Nat) (rch' que' : Nat → Int32) (f' : Nat → Nat), f_X4_isInRing_112 K (fun v1 v2 v3 v4 M => f_X4_isInRing_42 K fu v1 v2 v3 v4 M) (nI a) (nI many) (nI k) (nI o) (mR (mR M 37 rch) 38 que) = K (nI a) (nI many') (nI (k + 1)) (mR (mR M 37 rch') 38 que') ∧ k < many' ∧ BFI M n a many' (k + 1) rch' que' f' := by
          intro many rch que f2 _ hk2 hka2 B2' hO2
          rw [f_X4_isInRing_112, n1, nI_add]
          exact ih many (o + 1) rch que f2 (by omega) (by omega) hk2 hka2 B2' hO2
        by_cases h2 : rch o = 0
        · rw [if_pos h2]
          obtain ⟨r, e1, e2, e3⟩ := m_waitsFor (M := mR (mR M 37 rch) 38 que) (x := f k) (o := o) (by omega) (by omega) (hH (f k) hfk)
          have e3 : r = 1 ↔ waitsP M (f k) o := e3
          rw [e1, k_bs]
          by_cases hr : r = 0
          · rw [if_pos hr]
            refine next many rch que f rfl hk hka B (fun y hy hw => ?_)
            by_cases ey : y = o
            · subst ey; rw [hr] at e3; exact absurd (e3.mpr hw) (by decide)
            · exact hO y (by omega) hw
          · rw [if_neg hr, k_ls, if_pos (ck many 81 (by
              have := cnt_up (f := rch) (o := o) (n := n) (by omega) (by rw [h2]; decide)
              have h9 := cnt_le (upd rch o 1) n
              omega)), nc many (by omega), k_ls, mA_R, mA_R, mR_cm (mR M 37 rch) _ _ (show (38 : Nat) ≠ 37 by decide), mR_R, mR_R]
            have hw : waitsP M (f k) o := e3.mp (e2.resolve_left hr)
            rw [n1, nI_add]
            have hst : mR (mR (mR M 37 (upd rch o 1)) 38 que) 38 (upd que many (nI o)) = mR (mR M 37 (upd rch o 1)) 38 (upd que many (nI o)) := mR_R _ _ _ _
            have hcu := cnt_up (f := rch) (o := o) (n := n) (by omega) (by rw [h2]; decide)
            have hfin := next (many + 1) (upd rch o 1) (upd que many (nI o)) (fun i => if i = many then o else f i) (by show (if k = many then o else f k) = f k; rw [if_neg (by omega)]) (by omega) (by
                rcases hka with q | q
                · exact Or.inl q
                · right
                  show upd rch o 1 (if k = many then o else f k) = 1
                  rw [if_neg (by omega), upd_get]; split
                  · rfl
                  · exact q) ⟨fun i hi => ?_, ?_, fun x hx => ?_, by omega, fun x hx hx1 => ?_, fun x hx hx1 => ?_, fun i hi1 hi2 => ?_, fun i hi y hy => ?_⟩ (fun y hy hwy => ?_)
            · exact hfin
            · show upd que many (nI o) i = nI (if i = many then o else f i) ∧ (if i = many then o else f i) < n
              rw [upd_get]
              by_cases e : i = many
              · rw [if_pos e, if_pos e]; exact ⟨rfl, by omega⟩
              · rw [if_neg e, if_neg e]; exact B1 i (by omega)
            · show (if 0 = many then o else f 0) = a
              rw [if_neg (by omega)]; exact B2
            · rw [upd_get]; split
              · exact Or.inr rfl
              · exact B3 x hx
            · rw [upd_get] at hx1
              by_cases e : x = o
              · exact ⟨many, by omega, by show (if many = many then o else f many) = x; rw [if_pos rfl, e]⟩
              · rw [if_neg e] at hx1
                obtain ⟨i, i1, i2⟩ := B5 x hx hx1
                exact ⟨i, by omega, by show (if i = many then o else f i) = x; rw [if_neg (by omega), i2]⟩
            · rw [upd_get] at hx1
              by_cases e : x = o
              · subst e
                have hE : wE M n (f k) x := ⟨hfk, hx, hw⟩
                rcases hka with q | q
                · rw [q, B2] at hE; exact Relation.TransGen.single hE
                · exact Relation.TransGen.tail (B6 (f k) hfk q) hE
              · rw [if_neg e] at hx1; exact B6 x hx hx1
            · show upd rch o 1 (if i = many then o else f i) = 1
              by_cases e : i = many
              · rw [if_pos e, pk_us]
              · rw [if_neg e, upd_get]; split
                · rfl
                · exact B8 i hi1 (by omega)
            · have hy2 : wE M n (f i) y := by
                have : (fun i => if i = many then o else f i) i = f i := by show (if i = many then o else f i) = f i; rw [if_neg (by omega)]
                rw [this] at hy; exact hy
              rw [upd_get]; split
              · rfl
              · exact B7 i hi y hy2
            · have hwy2 : waitsP M (f k) y := by
                have hwy : waitsP M (if k = many then o else f k) y := hwy
                rw [if_neg (by omega)] at hwy; exact hwy
              rw [upd_get]; split
              · rfl
              · exact hO y (by omega) hwy2
        · rw [if_neg h2]
          refine next many rch que f rfl hk hka B (fun y hy hw => ?_)
          by_cases ey : y = o
          · rw [ey]; exact (B3 o (by omega)).resolve_left h2
          · exact hO y (by omega) hw
theorem m_ring_34 {M : MS} {n a : Nat} (hn80 : n ≤ 80) (hn : M.1 7 = nI n) (han : a < n) (hH : ∀ x, x < n → HeldOK M x) (fu many k : Nat) (rch que : Nat → Int32) (f : Nat → Nat) (hfu : 81 < fu + k) (hk : k ≤ many) (B : BFI M n a many k rch que f) : ∃ (r : Int32) (rch' que' : Nat → Int32), f_X4_isInRing_34 fu (nI a) (nI many) (nI k) (mR (mR M 37 rch) 38 que) = some (r, mR (mR M 37 rch') 38 que') ∧ (r = 0 ∨ r = 1) ∧ (r = 1 ↔ Relation.TransGen (wE M n) a a) := by
  induction fu generalizing many k rch que f with
  | zero => have := B.2.2.2.1; have h9 := cnt_le rch n; omega
  | succ fu ih =>
    obtain ⟨B1, B2, B3, B4, B5, B6, B8, B7⟩ := id B
    have hcl := cnt_le rch n
    rw [f_X4_isInRing_34]
    by_cases h0 : many ≤ k
    · rw [if_pos (np_ h0 (by omega) (by omega)), if_pos (ck a 80 (by omega)), nc a (by omega)]
      have gr : (mR (mR M 37 rch) 38 que).2.1 37 = rch := rfl
      rw [gr]
      have hall : ∀ x, Relation.TransGen (wE M n) a x → rch x = 1 := by
        intro x hx
        induction hx with
        | single h => exact B7 0 (by omega) _ (by rw [B2]; exact h)
        | tail h1 h2 ih2 =>
          obtain ⟨i, i1, i2⟩ := B5 _ h2.1 ih2
          exact B7 i (by omega) _ (by rw [i2]; exact h2)
      rcases B3 a han with q | q
      · rw [q, if_pos (by decide)]
        exact ⟨0, rch, que, rfl, Or.inl rfl, fun e => absurd e (by decide), fun e => by have := hall a e; rw [q] at this; exact absurd this (by decide)⟩
      · rw [q, if_pos (by decide)]
        exact ⟨1, rch, que, rfl, Or.inr rfl, fun _ => B6 a han q, fun _ => rfl⟩
    · rw [if_neg (nn h0 (by omega) (by omega))]
      obtain ⟨many', rch', que', f', g1, g2, g3⟩ := m_ring_42 hn80 hn hH (fun v1 v2 v3 M => f_X4_isInRing_34 fu v1 v2 v3 M) k 200 many 0 rch que f (by omega) (by omega) (by omega) (by
        by_cases q : k = 0
        · exact Or.inl q
        · exact Or.inr (B8 k (by omega) (by omega))) B (fun y hy => by omega)
      rw [show (0 : Int32) = nI 0 from rfl, g1]
      exact ih many' (k + 1) rch' que' f' (by omega) (by omega) g3
theorem m_ring_2 {M : MS} {n a : Nat} (hn80 : n ≤ 80) (fu o : Nat) (M2 : MS) (hn : M2.1 7 = nI n) (hfu : n < fu + o) (ho : o ≤ n) : f_X4_isInRing_2 fu (nI a) (nI o) M2 = f_X4_isInRing_34 200 (nI a) 1 0 (mA (mR M2 37 (rwm (M2.2.1 37) o (n - o) (fun _ => 0))) 38 0 (nI a)) := by
  induction fu generalizing o M2 with
  | zero => omega
  | succ fu ih =>
    rw [f_X4_isInRing_2, hn]
    by_cases h : n ≤ o
    · rw [if_pos (np_ h (by omega) (by omega)), k_ls, show n - o = 0 by omega, rwm_0, mR_id]; rfl
    · rw [if_neg (nn h (by omega) (by omega)), if_pos (ck o 80 (by omega)), nc o (by omega), k_ls, n1, nI_add, ih (o + 1) (mA M2 37 o 0) hn (by omega) (by omega), mA_R M2, mR_R]
      obtain ⟨d, hd⟩ : ∃ d, n - o = d + 1 := ⟨n - 1 - o, by omega⟩
      rw [hd, show n - (o + 1) = d by omega, show (mR M2 37 (upd (M2.2.1 37) o 0)).2.1 37 = upd (M2.2.1 37) o 0 from rfl, rwm_s (v := 0) (g := fun _ => 0) rfl]
      rfl
/-- whether an act waits, by others, for itself -/
theorem m_isInRing {M : MS} {n a : Nat} (hn80 : n ≤ 80) (hn : M.1 7 = nI n) (han : a < n) (hH : ∀ x, x < n → HeldOK M x) : ∃ (r : Int32) (rch que : Nat → Int32), f_X4_isInRing (nI a) M = some (r, mR (mR M 37 rch) 38 que) ∧ (r = 0 ∨ r = 1) ∧ (r = 1 ↔ Relation.TransGen (wE M n) a a) := by
  unfold f_X4_isInRing
  rw [n0, m_ring_2 (M := M) hn80 200 0 M hn (by omega) (by omega), mA_R]
  have h0 : ∀ x, x < n → (rwm (M.2.1 37) 0 (n - 0) (fun _ => 0)) x = 0 := fun x hx => if_pos (by omega)
  exact m_ring_34 hn80 hn han hH 200 1 0 _ _ (fun _ => a) (by omega) (by omega) ⟨fun i hi => by
      have : i = 0 := by omega
      subst this; exact ⟨pk_us, han⟩, rfl, fun x hx => Or.inl (h0 x hx), by rw [cnt_0 h0], fun x hx hx1 => by rw [h0 x hx] at hx1; exact absurd hx1 (by decide), fun x hx hx1 => by rw [h0 x hx] at hx1; exact absurd hx1 (by decide), fun i h1 h2 => by omega, fun i hi => by omega⟩
