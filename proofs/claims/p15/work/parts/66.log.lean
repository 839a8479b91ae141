theorem fa_or (a b : Nat) : nI a ||| nI b = nI (a ||| b) := by
  apply Int32.toBitVec_inj.1
  show BitVec.ofNat 32 a ||| BitVec.ofNat 32 b = BitVec.ofNat 32 (a ||| b)
  apply BitVec.eq_of_getLsbD_eq
  intro i hi
  simp [hi]
theorem fa_or_sum {a k : Nat} (b : Nat) (h : a < 2 ^ k) : nI (2 ^ k * b) ||| nI a = nI (2 ^ k * b + a) := by rw [fa_or, Nat.two_pow_add_eq_or_of_lt h]
/-- an entry as one number -/
theorem enc_nat {k a cc s : Nat} {cl : Int32} (hk : k < 5) (ha : a < 80) (hc : cc ≤ 24) (hs : s ≤ 5000) (hcl : cl + 1 = nI cc) : enc (nI k) (nI a) cl (nI s) = nI (8 * (128 * (32 * s + cc) + a) + k) := by
  unfold enc
  rw [hcl, pk_shlN (n := s) ((15 : Int32) &&& 31) 15 (by decide) (by show s * 32768 < 4294967296; omega), pk_shlN (n := cc) ((10 : Int32) &&& 31) 10 (by decide) (by show cc * 1024 < 4294967296; omega), pk_shlN (n := a) ((3 : Int32) &&& 31) 3 (by decide) (by show a * 8 < 4294967296; omega)]
  have e1 : nI (s * 2 ^ 15) ||| nI (cc * 2 ^ 10) = nI (2 ^ 15 * s + cc * 2 ^ 10) := by
    rw [Nat.mul_comm s]; exact fa_or_sum s (by show cc * 1024 < 32768; omega)
  have e2 : nI (2 ^ 15 * s + cc * 2 ^ 10) ||| nI (a * 2 ^ 3) = nI (2 ^ 10 * (32 * s + cc) + a * 2 ^ 3) := by
    rw [show 2 ^ 15 * s + cc * 2 ^ 10 = 2 ^ 10 * (32 * s + cc) by omega]; exact fa_or_sum _ (by show a * 8 < 1024; omega)
  have e3 : nI (2 ^ 10 * (32 * s + cc) + a * 2 ^ 3) ||| nI k = nI (2 ^ 3 * (128 * (32 * s + cc) + a) + k) := by
    rw [show 2 ^ 10 * (32 * s + cc) + a * 2 ^ 3 = 2 ^ 3 * (128 * (32 * s + cc) + a) by omega]; exact fa_or_sum _ (by show k < 8; omega)
  rw [e1, e2, e3]
theorem s_log (j : Nat) (C : CS) (M : MS) (x y : Int32) (hR : RLaw j C M) : ∃ (q1 : Int32) (C1 : CS) (q2 : Int32) (M1 : MS), f_X3_log x y C = some (q1, C1) ∧ f_X4_log x y M = some (q2, M1) ∧ RLaw (j + 1) C1 M1 ∧ q1 = q2 := by
  obtain ⟨n, t, d, e, kp, fa, h1, h⟩ := id hR
  obtain ⟨a1, a2, a3, a4, a5, a6⟩ : M.1 31 = nI e ∧ C.1 21 = nI e ∧ 4 * e ≤ M.2.2 ∧ lnOK M.2.2 ∧ e ≤ gE C ∧ isE (gE C) := h 3
  have no : ∃ (q1 : Int32) (C1 : CS) (q2 : Int32) (M1 : MS), k_bind (some ((-1 : Int32), C)) (fun r1 C1 => some (r1, C1)) = some (q1, C1) ∧ some ((-1 : Int32), M) = some (q2, M1) ∧ RLaw (j + 1) C1 M1 ∧ q1 = q2 := ⟨_, C, _, M, rfl, rfl, RLaw_mono hR, rfl⟩
  have he : e ≤ 512000 := by unfold lnOK at a4; omega
  unfold f_X3_log f_X4_log f_X1_tell
  rw [a1, a2]
  rcases rng x e (by omega) with ⟨i, hi, rfl, e1, e2⟩ | ⟨e1, e2⟩
  · have hE : gE C < 2147483648 := by unfold isE at a6; clear a4; omega
    have hL : M.2.2 ≤ 2147483648 := by unfold lnOK at a4; clear a6; omega
    rw [e2, if_neg i10, if_neg (nI_pos (by omega)), if_pos ((nIlt (by omega) (by omega)).mpr hi), if_pos (ck i (gE C) (by omega)), nc i (by omega)]
    obtain ⟨k, a, s, g1, g2, g3, g4, g5, g6, g7, g8⟩ := h 17 i hi
    obtain ⟨cc, hcc, ecc, ecl⟩ : ∃ cc, cc ≤ 24 ∧ M.2.1 33 (4 * i + 2) + 1 = nI cc ∧ nI cc - 1 = M.2.1 33 (4 * i + 2) := by
      rcases g6 with q | ⟨c, hc, q⟩
      · exact ⟨0, by omega, by rw [q]; decide, by rw [q]; decide⟩
      · exact ⟨c + 1, by omega, by rw [q, n1, nI_add], by rw [q]; exact nI_pred c⟩
    rw [g8, g4, g5, g7, enc_nat g1 g2 hcc g3 ecc]
    have hV : 8 * (128 * (32 * s + cc) + a) + k < 200000000 := by omega
    by_cases y0 : y.toInt = 0
    · obtain rfl : y = nI 0 := Int32.toInt_inj.mp (y0.trans (by decide))
      rw [if_pos y0, show f_X4_in (nI 0) 0 3 = 1 from by decide, if_neg i10, ix4, if_pos (ck (4 * i + 0) M.2.2 (by omega)), nc (4 * i + 0) (by omega), k_bs, pk_andN (by omega) 3 (by decide)]
      refine ⟨_, C, _, M, rfl, rfl, RLaw_mono hR, ?_⟩
      rw [Nat.add_zero, g4]; congr 1; omega
    rw [if_neg y0]
    by_cases y1 : y.toInt = 1
    · obtain rfl : y = nI 1 := Int32.toInt_inj.mp (y1.trans (by decide))
      rw [if_pos y1, show f_X4_in (nI 1) 0 3 = 1 from by decide, if_neg i10, ix4, if_pos (ck (4 * i + 1) M.2.2 (by omega)), nc (4 * i + 1) (by omega), k_bs, pk_shrN (by omega) ((3 : Int32) &&& 31) 3 (by decide), pk_andN (by have := Nat.div_le_self (8 * (128 * (32 * s + cc) + a) + k) (2 ^ 3); omega) 7 (by decide)]
      refine ⟨_, C, _, M, rfl, rfl, RLaw_mono hR, ?_⟩
      rw [g5]; congr 1; omega
    rw [if_neg y1]
    by_cases y2 : y.toInt = 2
    · obtain rfl : y = nI 2 := Int32.toInt_inj.mp (y2.trans (by decide))
      rw [if_pos y2, show f_X4_in (nI 2) 0 3 = 1 from by decide, if_neg i10, ix4, if_pos (ck (4 * i + 2) M.2.2 (by omega)), nc (4 * i + 2) (by omega), k_bs, pk_shrN (by omega) ((10 : Int32) &&& 31) 10 (by decide), pk_andN (by have := Nat.div_le_self (8 * (128 * (32 * s + cc) + a) + k) (2 ^ 10); omega) 5 (by decide)]
      refine ⟨_, C, _, M, rfl, rfl, RLaw_mono hR, ?_⟩
      rw [← ecl]; congr 2; omega
    rw [if_neg y2]
    by_cases y3 : y.toInt = 3
    · obtain rfl : y = nI 3 := Int32.toInt_inj.mp (y3.trans (by decide))
      rw [if_pos y3, show f_X4_in (nI 3) 0 3 = 1 from by decide, if_neg i10, ix4, if_pos (ck (4 * i + 3) M.2.2 (by omega)), nc (4 * i + 3) (by omega), k_bs, pk_shrN (by omega) ((15 : Int32) &&& 31) 15 (by decide)]
      refine ⟨_, C, _, M, rfl, rfl, RLaw_mono hR, ?_⟩
      rw [g7]; congr 1; omega
    rw [if_neg y3, show f_X4_in y 0 3 = 0 from by
      rw [m_in, if_neg (fun q => by have a := k_le q.1; have b := k_le q.2; rw [show ((0 : Int32)).toInt = 0 from by decide] at a; rw [show ((3 : Int32)).toInt = 3 from by decide] at b; omega)], if_pos rfl]
    exact no
  · rw [e2, if_pos rfl]
    by_cases x0 : x < 0
    · rw [if_pos x0]; exact no
    · rw [if_neg x0]
      by_cases x1 : x < nI e
      · have : f_X3_isBelow x (nI e) = 1 := by unfold f_X3_isBelow; rw [if_neg x0, if_neg (fun q => by have a := k_lt x1; have b := k_le q; omega)]
        rw [this] at e1; exact absurd e1 (by decide)
      · rw [if_neg x1]; exact no
