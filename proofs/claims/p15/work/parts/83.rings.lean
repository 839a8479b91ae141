/-! ===== rings: which act is undone ===== -/
def lat (M : MS) (a b : Nat) : Prop := (M.2.1 20 b).toInt < (M.2.1 20 a).toInt ∨ ((M.2.1 20 b).toInt = (M.2.1 20 a).toInt ∧ b < a)
theorem ring_hd {r : Nat → Nat → Prop} {a b : Nat} (h : Relation.TransGen r a b) : ∃ c, r a c := by
  induction h with
  | single h => exact ⟨_, h⟩
  | tail _ _ ih => exact ih
/-- the best of the first a (or none) -/
def bst (M : MS) (R : Nat → Prop) (f : Nat → Nat) (a : Nat) (v : Int32) : Prop := (v = -1 ∧ ∀ p, p < a → ¬ R p) ∨ ∃ p, p < a ∧ v = nI p ∧ R p ∧ ∀ q, q < a → R q → q ≠ p → lat M (f p) (f q)
theorem bst_no {M : MS} {R : Nat → Prop} {f : Nat → Nat} {a : Nat} {v : Int32} (h : bst M R f a v) (hn : ¬ R a) : bst M R f (a + 1) v := by
  rcases h with ⟨h1, h2⟩ | ⟨p, h1, h2, h3, h4⟩
  · exact Or.inl ⟨h1, fun p hp => by
      by_cases e : p = a
      · subst e; exact hn
      · exact h2 p (by omega)⟩
  · exact Or.inr ⟨p, by omega, h2, h3, fun q hq hr hqp => by
      by_cases e : q = a
      · subst e; exact absurd hr hn
      · exact h4 q (by omega) hr hqp⟩
theorem bst_old {M : MS} {R : Nat → Prop} {f : Nat → Nat} {a p : Nat} (h1 : p < a) (h3 : R p) (h4 : ∀ q, q < a → R q → q ≠ p → lat M (f p) (f q)) (hl : lat M (f p) (f a)) : bst M R f (a + 1) (nI p) := Or.inr ⟨p, by omega, rfl, h3, fun q hq hr hqp => by
  by_cases e : q = a
  · subst e; exact hl
  · exact h4 q (by omega) hr hqp⟩
theorem bst_new {M : MS} {R : Nat → Prop} {f : Nat → Nat} {a p : Nat} (h1 : p < a) (h3 : R p) (h4 : ∀ q, q < a → R q → q ≠ p → lat M (f p) (f q)) (ha : R a) (hl : lat M (f a) (f p)) : bst M R f (a + 1) (nI a) := Or.inr ⟨a, by omega, rfl, ha, fun q hq hr hqp => by
  by_cases e : q = p
  · subst e; exact hl
  · have := h4 q (by omega) hr e
    unfold lat at this hl ⊢; omega⟩
theorem bst_one {M : MS} {R : Nat → Prop} {f : Nat → Nat} {a : Nat} (h : ∀ p, p < a → ¬ R p) (ha : R a) : bst M R f (a + 1) (nI a) := Or.inr ⟨a, by omega, rfl, ha, fun q hq hr hqp => absurd hr (h q (by omega))⟩
/-- the reference's end of a round -/
def brk (K : Int32 → MS → Option (Int32 × MS)) (v1 : Int32) (M : MS) : Option (Int32 × MS) := (if v1 = (-1) then K v1 M else (k_bind (f_X4_logs (4 : Int32) v1 ((-1) : Int32) M) fun _ M4 => (k_bind (f_X4_clears v1 M4) fun _ M5 => (if 0 ≤ v1.toInt ∧ v1.toInt < 80 then (k_let (mA M5 11 v1.toNatClampNeg (0 : Int32)) fun M7 => (k_let (mA M7 18 v1.toNatClampNeg (((M7.2.1 18) v1.toNatClampNeg) + 1)) fun M8 => (k_let (mI M8 34 ((M8.1 34) + 1)) fun M9 => K v1 M9))) else none))))
theorem m1_ne {p : Nat} (hp : p < 2147483648) : nI p ≠ -1 := fun e => by
  have := congrArg Int32.toInt e
  rw [nI_toInt (by omega), show ((-1 : Int32)).toInt = -1 from by decide] at this
  omega
theorem m_last_11 {M : MS} {n : Nat} (K : Int32 → MS → Option (Int32 × MS)) (hn80 : n ≤ 80) (hn : M.1 7 = nI n) (hH : ∀ x, x < n → HeldOK M x) (fu a : Nat) (v : Int32) (rch que : Nat → Int32) (hf : n < fu + a) (ha : a ≤ n) (inv : bst M (fun x => Relation.TransGen (wE M n) x x) id a v) : ∃ (v' : Int32) (rch' que' : Nat → Int32), f_X4_breaks_11 K fu v (nI a) (mR (mR M 37 rch) 38 que) = brk K v' (mR (mR M 37 rch') 38 que') ∧ bst M (fun x => Relation.TransGen (wE M n) x x) id n v' := by
  induction fu generalizing a v rch que with
  | zero => omega
  | succ fu ih =>
    rw [f_X4_breaks_11, show (mR (mR M 37 rch) 38 que).1 7 = nI n from hn]
    by_cases h0 : n ≤ a
    · rw [if_pos (np_ h0 (by omega) (by omega))]
      have : a = n := by omega
      subst this
      exact ⟨v, rch, que, rfl, inv⟩
    · rw [if_neg (nn h0 (by omega) (by omega)), if_pos (ck a 80 (by omega)), nc a (by omega), show (mR (mR M 37 rch) 38 que).2.1 11 a = M.2.1 11 a from rfl, show (mR (mR M 37 rch) 38 que).2.1 16 a = M.2.1 16 a from rfl]
      have nx : ∀ (w : Int32) (r q : Nat → Int32), bst M (fun x => Relation.TransGen (wE M n) x x) id (a + 1) w → ∃ (v' : Int32) (rch' que' : Nat → Int32), f_X4_breaks_68 K (fun v1 v2 M => f_X4_breaks_11 K fu v1 v2 M) w (nI a) (mR (mR M 37 r) 38 q) = brk K v' (mR (mR M 37 rch') 38 que') ∧ bst M (fun x => Relation.TransGen (wE M n) x x) id n v' := by
        intro w r q hw
        rw [f_X4_breaks_68, n1, nI_add]
        exact ih (a + 1) w r q (by omega) (by omega) hw
      by_cases hs : M.2.1 11 a = 1
      · rw [if_pos hs]
        by_cases h16 : M.2.1 16 a = 0
        · rw [if_pos h16]
          exact nx v rch que (bst_no inv (fun z => by obtain ⟨c, hc⟩ := ring_hd z; exact hc.2.2.2.1 h16))
        · rw [if_neg h16]
          obtain ⟨r, rc, qu, e1, e2, e3⟩ := m_isInRing (M := mR (mR M 37 rch) 38 que) (n := n) (a := a) hn80 hn (by omega) hH
          have e3 : r = 1 ↔ Relation.TransGen (wE M n) a a := e3
          rw [e1, k_bs, mR_2 M _ _ _ _ (by omega)]
          by_cases hr : r = 0
          · rw [if_pos hr]
            exact nx v rc qu (bst_no inv (fun z => by rw [hr] at e3; exact absurd (e3.mpr z) (by decide)))
          · rw [if_neg hr]
            have hR := e3.mp (e2.resolve_left hr)
            rcases inv with ⟨i1, i2⟩ | ⟨p, i1, i2, i3, i4⟩
            · rw [if_pos i1, f_X4_breaks_66]
              exact nx (nI a) rc qu (bst_one i2 hR)
            · rw [i2, if_neg (m1_ne (by omega)), if_pos (ck p 80 (by omega)), nc p (by omega), show (mR (mR M 37 rc) 38 qu).2.1 20 = M.2.1 20 from rfl]
              by_cases z : M.2.1 20 a < M.2.1 20 p
              · rw [if_pos z]
                exact nx (nI p) rc qu (bst_old i1 i3 i4 (Or.inl (k_lt z)))
              · rw [if_neg z, f_X4_breaks_66]
                have := k_nlt z
                refine nx (nI a) rc qu (bst_new i1 i3 i4 hR ?_)
                show lat M a p
                unfold lat; omega
      · rw [if_neg hs]
        exact nx v rch que (bst_no inv (fun z => by obtain ⟨c, hc⟩ := ring_hd z; exact hs hc.2.2.1))
theorem m_last {M : MS} {n : Nat} (K : Int32 → MS → Option (Int32 × MS)) (hn80 : n ≤ 80) (hn : M.1 7 = nI n) (hH : ∀ x, x < n → HeldOK M x) : ∃ (v' : Int32) (rch' que' : Nat → Int32), f_X4_breaks_11 K 200 (-1) 0 M = brk K v' (mR (mR M 37 rch') 38 que') ∧ bst M (fun x => Relation.TransGen (wE M n) x x) id n v' := by
  have := m_last_11 K hn80 hn hH 200 0 (-1) (M.2.1 37) (M.2.1 38) (by omega) (by omega) (Or.inl ⟨rfl, fun p hp => by omega⟩)
  rw [mR_id, mR_id] at this
  exact this
theorem c_last_11 {C : CS} {M : MS} {n m : Nat} {g : Nat → Nat} {B : Nat → Nat} (hn : n ≤ 80) (hN : gN C = n) (h14 : C.1 14 = nI m) (hm : m ≤ 36) (hrun : ∀ q, q < m → C.2.1 8 q = nI (g q) ∧ g q < n) (inj : ∀ p q, p < q → q < m → g p ≠ g q) (h16 : ∀ x, x < n → gP C x 16 = M.2.1 20 x) (hg : LB (C.2.2.1 31) B m) (fu i : Nat) (v : Int32) (hf : m < fu + i) (hi : i ≤ m) (inv : bst M (fun x => (B x).testBit x = true) g i v) : ∃ v' : Int32, f_X3_lastBegunInRing_11 fu v (nI i) C = some (v', C) ∧ bst M (fun x => (B x).testBit x = true) g m v' := by
  induction fu generalizing i v with
  | zero => omega
  | succ fu ih =>
    rw [f_X3_lastBegunInRing_11, h14]
    by_cases h0 : m ≤ i
    · rw [if_pos (np_ h0 (by omega) (by omega))]
      have : i = m := by omega
      subst this
      exact ⟨v, rfl, inv⟩
    · rw [if_neg (nn h0 (by omega) (by omega))]
      have nx : ∀ w : Int32, bst M (fun x => (B x).testBit x = true) g (i + 1) w → ∃ v' : Int32, f_X3_lastBegunInRing_56 (fun v1 v2 C => f_X3_lastBegunInRing_11 fu v1 v2 C) w (nI i) C = some (v', C) ∧ bst M (fun x => (B x).testBit x = true) g m v' := by
        intro w hw
        rw [f_X3_lastBegunInRing_56, n1, nI_add]
        exact ih (i + 1) w (by omega) (by omega) hw
      obtain ⟨r, e1, e2, e3⟩ := c_isInRing (C := C) (B := B) hm hg (show i < m by omega)
      rw [e1, k_bs]
      by_cases hr : r = 0
      · rw [if_pos hr]
        exact nx v (bst_no inv (fun z => by rw [hr] at e3; exact absurd (e3.mpr z) (by decide)))
      · rw [if_neg hr]
        have hR := e3.mp (e2.resolve_left hr)
        rcases inv with ⟨i1, i2⟩ | ⟨p, i1, i2, i3, i4⟩
        · rw [if_pos i1, f_X3_lastBegunInRing_54]
          exact nx (nI i) (bst_one i2 hR)
        · obtain ⟨x1, x2⟩ := hrun i (by omega)
          obtain ⟨y1, y2⟩ := hrun p (by omega)
          have ne := inj p i i1 (by omega)
          rw [i2, if_neg (m1_ne (by omega)), if_pos (ck i 36 (by omega)), if_pos (ck p 36 (by omega)), nc i (by omega), nc p (by omega), x1, y1]
          unfold f_X3_isBegunLater
          rw [nc (g i) (by omega), nc (g p) (by omega), if_pos ⟨ck (g i) 80 (by omega), by omega⟩, if_pos ⟨ck (g p) 80 (by omega), by omega⟩, h16 _ x2, h16 _ y2]
          by_cases z : M.2.1 20 (g i) = M.2.1 20 (g p)
          · rw [if_pos z]
            by_cases z2 : g i ≤ g p
            · rw [if_pos (np_ z2 (by omega) (by omega)), k_bs, if_pos rfl]
              exact nx (nI p) (bst_old i1 i3 i4 (by unfold lat; rw [z]; omega))
            · rw [if_neg (nn z2 (by omega) (by omega)), k_bs, if_neg i10, f_X3_lastBegunInRing_54]
              exact nx (nI i) (bst_new i1 i3 i4 hR (by unfold lat; rw [z]; omega))
          · rw [if_neg z]
            have z' : (M.2.1 20 (g i)).toInt ≠ (M.2.1 20 (g p)).toInt := fun e => z (Int32.toInt_inj.mp e)
            by_cases z2 : M.2.1 20 (g i) ≤ M.2.1 20 (g p)
            · have := k_le z2
              rw [if_pos z2, k_bs, if_pos rfl]
              exact nx (nI p) (bst_old i1 i3 i4 (by unfold lat; omega))
            · have := k_nle z2
              rw [if_neg z2, k_bs, if_neg i10, f_X3_lastBegunInRing_54]
              exact nx (nI i) (bst_new i1 i3 i4 hR (by unfold lat; omega))
/-- the class's bits tell the waits of those that are begun -/
def WI (M : MS) (m : Nat) (g : Nat → Nat) (A : Nat → Nat) : Prop := ∀ i, i < m → (∀ j, (A i).testBit j = true → j < m ∧ M.2.1 11 (g i) = 1 ∧ (M.2.1 11 (g j) = 1 → waitsP M (g i) (g j))) ∧ ∀ j, j < m → waitsP M (g i) (g j) → (A i).testBit j = true
theorem ring_iff {M : MS} {n m : Nat} {g : Nat → Nat} {A : Nat → Nat} (W : WI M m g A) (hg : ∀ q, q < m → g q < n) (inj : ∀ p q, p < q → q < m → g p ≠ g q) (hall : ∀ x, x < n → M.2.1 11 x = 1 → ∃ q, q < m ∧ g q = x) {i : Nat} (hi : i < m) : Relation.TransGen (sE A m) i i ↔ Relation.TransGen (wE M n) (g i) (g i) := by
  have bg : ∀ {x y}, sE A m x y → M.2.1 11 (g x) = 1 := fun e => ((W _ e.1).1 _ e.2.2).2.1
  constructor
  · intro h
    have h1 : M.2.1 11 (g i) = 1 := by obtain ⟨c, hc⟩ := ring_hd h; exact bg hc
    have key : ∀ c, Relation.TransGen (sE A m) i c → M.2.1 11 (g c) = 1 → Relation.TransGen (wE M n) (g i) (g c) := by
      intro c hc
      induction hc with
      | single e => exact fun hb => Relation.TransGen.single ⟨hg _ e.1, hg _ e.2.1, ((W _ e.1).1 _ e.2.2).2.2 hb⟩
      | tail _ e ih => exact fun hb => Relation.TransGen.tail (ih (bg e)) ⟨hg _ e.1, hg _ e.2.1, ((W _ e.1).1 _ e.2.2).2.2 hb⟩
    exact key i h h1
  · intro h
    have key : ∀ y, Relation.TransGen (wE M n) (g i) y → ∃ j, j < m ∧ g j = y ∧ Relation.TransGen (sE A m) i j := by
      intro y hy
      induction hy with
      | single e =>
        obtain ⟨j, j1, j2⟩ := hall _ e.2.1 e.2.2.2.2.2.2.1
        exact ⟨j, j1, j2, Relation.TransGen.single ⟨hi, j1, (W i hi).2 j j1 (by rw [j2]; exact e.2.2)⟩⟩
      | tail _ e ih =>
        obtain ⟨k, k1, k2, k3⟩ := ih
        obtain ⟨j, j1, j2⟩ := hall _ e.2.1 e.2.2.2.2.2.2.1
        exact ⟨j, j1, j2, Relation.TransGen.tail k3 ⟨k1, j1, (W k k1).2 j j1 (by rw [k2, j2]; exact e.2.2)⟩⟩
    obtain ⟨j, j1, j2, j3⟩ := key _ h
    have : j = i := by
      by_cases z : j < i
      · exact absurd j2 (inj j i z hi)
      · by_cases z2 : i < j
        · exact absurd j2.symm (inj i j z2 j1)
        · omega
    rw [this] at j3; exact j3
