/-- the class's state: its numbers, its rows, its rows of longs, how long the log's row is, how many acts there are, their numbers and rows -/
abbrev CS : Type := (Nat → Int32) × (Nat → Nat → Int32) × (Nat → Nat → Int64) × Nat × Nat × (Nat → Nat → Int32) × (Nat → Nat → Nat → Int32)
abbrev gE (C : CS) : Nat := C.2.2.2.1
abbrev gN (C : CS) : Nat := C.2.2.2.2.1
abbrev gP (C : CS) : Nat → Nat → Int32 := C.2.2.2.2.2.1
abbrev gQ (C : CS) : Nat → Nat → Nat → Int32 := C.2.2.2.2.2.2
def cN (C : CS) (k : Nat) (v : Int32) : CS := (upd C.1 k v, C.2)
def cAF (C : CS) (k : Nat) (f : Nat → Int32) : CS := (C.1, va_up C.2.1 k f, C.2.2)
def cLF (C : CS) (k : Nat) (f : Nat → Int64) : CS := (C.1, C.2.1, va_up C.2.2.1 k f, C.2.2.2)
def cEF (C : CS) (f : Nat → Int32) : CS := (C.1, va_up C.2.1 20 f, C.2.2.1, 2 * C.2.2.2.1, C.2.2.2.2)
def cP (C : CS) (n k : Nat) (v : Int32) : CS := (C.1, C.2.1, C.2.2.1, gE C, gN C, va_up (gP C) n (upd (gP C n) k v), gQ C)
def cQF (C : CS) (n k : Nat) (f : Nat → Int32) : CS := (C.1, C.2.1, C.2.2.1, gE C, gN C, gP C, va_up (gQ C) n (va_up (gQ C n) k f))
def cAdd (C : CS) (I : Nat → Int32) (A : Nat → Nat → Int32) : CS := (C.1, C.2.1, C.2.2.1, gE C, gN C + 1, va_up (gP C) (gN C) I, va_up (gQ C) (gN C) A)
def k_fil (n : Nat) (v : Int32) (f : Nat → Int32) : Nat → Int32 := fun j => if j < n then v else f j
def k_filL (n : Nat) (v : Int64) (f : Nat → Int64) : Nat → Int64 := fun j => if j < n then v else f j
def aF (a : Nat → Nat) (I : Nat → Int32) : List Value := [.int (I 0), .int (I 1), .int (I 2), .int (I 3), .ref (a 4), .ref (a 5), .ref (a 6), .ref (a 7), .ref (a 8), .ref (a 9), .int (I 10), .int (I 11), .int (I 12), .int (I 13), .int (I 14), .int (I 15), .int (I 16), .int (I 17), .int (I 18), .int (I 19)]
def cCell (cI : ClassId) (a : Nat → Nat) (I : Nat → Int32) (A : Nat → Nat → Int32) : va_W := [(a 0, .inr (0, aF a I)), (a 4, .inl (cI, 12, .inl (A 4))), (a 5, .inl (cI, 24, .inl (A 5))), (a 6, .inl (cI, 24, .inl (A 6))), (a 7, .inl (cI, 8, .inl (A 7))), (a 8, .inl (cI, 8, .inl (A 8))), (a 9, .inl (cI, 12, .inl (A 9)))]
def cPool (cI : ClassId) (pa : Nat → Nat → Nat) (I : Nat → Nat → Int32) (A : Nat → Nat → Nat → Int32) : Nat → va_W
  | 0 => []
  | n + 1 => cPool cI pa I A n ++ cCell cI (pa n) (I n) (A n)
def cActs (pa : Nat → Nat → Nat) (N : Nat) : Nat → Option Nat := fun i => if i < N then some (pa i 0) else none
theorem cActs_lt {pa : Nat → Nat → Nat} {N n : Nat} (h : n < N) : cActs pa N n = some (pa n 0) := if_pos h
def hF (xa : Nat → Nat) (C : CS) : List Value := [.ref (xa 0), .ref (xa 1), .ref (xa 2), .ref (xa 3), .ref (xa 4), .ref (xa 5), .ref (xa 6), .ref (xa 7), .ref (xa 8), .ref (xa 9), .ref (xa 10), .ref (xa 11), .int (C.1 12), .int (C.1 13), .int (C.1 14), .int (C.1 15), .int (C.1 16), .int (C.1 17)]
def bF (xa : Nat → Nat) (ea : Nat) (C : CS) : List Value := [.ref ea, .int (C.1 21), .int (C.1 22)]
def wF (xa : Nat → Nat) (C : CS) : List Value := [.ref (xa 30), .ref (xa 31), .int (C.1 32)]
def cX (cI cJ cO : ClassId) (h : Nat) (xa : Nat → Nat) (ea : Nat) (pa : Nat → Nat → Nat) (C : CS) : va_W := [(h, .inr (3, hF xa C)), (xa 0, .inl (cI, 96, .inl (C.2.1 0))), (xa 1, .inl (cI, 8, .inl (C.2.1 1))), (xa 2, .inl (cI, 4, .inl (C.2.1 2))), (xa 3, .inl (cI, 8, .inl (C.2.1 3))), (xa 4, .inl (cI, 32, .inl (C.2.1 4))), (xa 5, .inl (cO, 80, .inr (.inr (.inr (.inr (cActs pa (gN C))))))), (xa 6, .inl (cI, 80, .inl (C.2.1 6))), (xa 7, .inl (cI, 80, .inl (C.2.1 7))), (xa 8, .inl (cI, 36, .inl (C.2.1 8))), (xa 9, .inl (cI, 4, .inl (C.2.1 9))), (xa 10, .inr (1, bF xa ea C)), (ea, .inl (cI, gE C, .inl (C.2.1 20))), (xa 11, .inr (2, wF xa C)), (xa 30, .inl (cJ, 36, .inr (.inl (C.2.2.1 30)))), (xa 31, .inl (cJ, 36, .inr (.inl (C.2.2.1 31))))]
def cW (cI cJ cO : ClassId) (h : Nat) (xa : Nat → Nat) (ea : Nat) (pa : Nat → Nat → Nat) (C : CS) : va_W := cX cI cJ cO h xa ea pa C ++ cPool cI pa (gP C) (gQ C) (gN C)
theorem cPool_len {cI : ClassId} {pa : Nat → Nat → Nat} {I : Nat → Nat → Int32} {A : Nat → Nat → Nat → Int32} (N : Nat) : (cPool cI pa I A N).length = 7 * N := by
  induction N with
  | zero => rfl
  | succ n ih => show (cPool cI pa I A n ++ cCell cI (pa n) (I n) (A n)).length = _; rw [List.length_append, ih]; show 7 * n + 7 = _; omega
theorem cPool_get {cI : ClassId} {pa : Nat → Nat → Nat} {I : Nat → Nat → Int32} {A : Nat → Nat → Nat → Int32} {N n j : Nat} (hn : n < N) (hj : j < 7) : (cPool cI pa I A N)[7 * n + j]? = (cCell cI (pa n) (I n) (A n))[j]? := by
  induction N with
  | zero => omega
  | succ m ih =>
    show (cPool cI pa I A m ++ cCell cI (pa m) (I m) (A m))[7 * n + j]? = _
    by_cases h : n < m
    · rw [List.getElem?_append_left (by rw [cPool_len]; omega)]; exact ih h
    · have : n = m := by omega
      subst this
      rw [List.getElem?_append_right (by rw [cPool_len]; omega), cPool_len]
      congr 1; omega
theorem cPool_at {cI : ClassId} {pa : Nat → Nat → Nat} {I : Nat → Nat → Int32} {A : Nat → Nat → Nat → Int32} {N i : Nat} (h : i < 7 * N) : (cPool cI pa I A N)[i]? = (cCell cI (pa (i / 7)) (I (i / 7)) (A (i / 7)))[i % 7]? := by
  have e := cPool_get (cI := cI) (pa := pa) (I := I) (A := A) (N := N) (n := i / 7) (j := i % 7) (by omega) (by omega)
  rw [show 7 * (i / 7) + i % 7 = i by omega] at e
  exact e
theorem cPool_set {cI : ClassId} {pa : Nat → Nat → Nat} {I I' : Nat → Nat → Int32} {A A' : Nat → Nat → Nat → Int32} {N n j : Nat} {x : Nat × va_E} (hn : n < N) (hj : j < 7) (hI : ∀ i, i ≠ n → I' i = I i) (hA : ∀ i, i ≠ n → A' i = A i) (hc : cCell cI (pa n) (I' n) (A' n) = (cCell cI (pa n) (I n) (A n)).set j x) : (cPool cI pa I A N).set (7 * n + j) x = cPool cI pa I' A' N := by
  apply List.ext_getElem?
  intro i
  by_cases hi : i < 7 * N
  · rw [List.getElem?_set, cPool_len, cPool_at hi, cPool_at hi]
    by_cases hq : i / 7 = n
    · rw [hq, hc, List.getElem?_set]
      have hl : (cCell cI (pa n) (I n) (A n)).length = 7 := rfl
      rw [hl]
      by_cases hjj : j = i % 7
      · rw [if_pos (show 7 * n + j = i by omega), if_pos hjj, if_pos (by omega), if_pos hj]
      · rw [if_neg (show ¬ 7 * n + j = i by omega), if_neg hjj]
    · rw [if_neg (by omega), hI _ hq, hA _ hq]
  · rw [List.getElem?_eq_none (by rw [List.length_set, cPool_len]; omega), List.getElem?_eq_none (by rw [cPool_len]; omega)]
theorem cW_get {cI cJ cO : ClassId} {h : Nat} {xa : Nat → Nat} {ea : Nat} {pa : Nat → Nat → Nat} {C : CS} {n j : Nat} {e : Nat × va_E} (hn : n < gN C) (he : (cCell cI (pa n) (gP C n) (gQ C n))[j]? = some e) : (cW cI cJ cO h xa ea pa C)[16 + (7 * n + j)]? = some e := by
  have hj : j < 7 := (List.getElem?_eq_some_iff.mp he).1
  show (cX cI cJ cO h xa ea pa C ++ cPool cI pa (gP C) (gQ C) (gN C))[16 + (7 * n + j)]? = some e
  rw [List.getElem?_append_right (by show 16 ≤ _; omega)]
  show (cPool cI pa (gP C) (gQ C) (gN C))[16 + (7 * n + j) - 16]? = some e
  rw [Nat.add_sub_cancel_left, cPool_get hn hj, he]
theorem cP_eq {cI cJ cO : ClassId} {h : Nat} {xa : Nat → Nat} {ea : Nat} {pa : Nat → Nat → Nat} {C : CS} {n k : Nat} {v : Int32} {x : Nat × va_E} (hn : n < gN C) (hc : cCell cI (pa n) (upd (gP C n) k v) (gQ C n) = (cCell cI (pa n) (gP C n) (gQ C n)).set 0 x) : (cW cI cJ cO h xa ea pa C).set (16 + (7 * n + 0)) x = cW cI cJ cO h xa ea pa (cP C n k v) := by
  show (cX cI cJ cO h xa ea pa C ++ cPool cI pa (gP C) (gQ C) (gN C)).set (16 + (7 * n + 0)) x = _
  rw [List.set_append_right _ _ (by show 16 ≤ _; omega)]
  show cX cI cJ cO h xa ea pa C ++ (cPool cI pa (gP C) (gQ C) (gN C)).set (16 + (7 * n + 0) - 16) x = cX cI cJ cO h xa ea pa C ++ cPool cI pa (va_up (gP C) n (upd (gP C n) k v)) (gQ C) (gN C)
  rw [Nat.add_sub_cancel_left, cPool_set (I' := va_up (gP C) n (upd (gP C n) k v)) (A' := gQ C) hn (by omega) (fun i hi => if_neg hi) (fun _ _ => rfl) (by rw [va_up_self]; exact hc)]
theorem cQ_eq {cI cJ cO : ClassId} {h : Nat} {xa : Nat → Nat} {ea : Nat} {pa : Nat → Nat → Nat} {C : CS} {n k j : Nat} {f : Nat → Int32} {x : Nat × va_E} (hn : n < gN C) (hj : j < 7) (hc : cCell cI (pa n) (gP C n) (va_up (gQ C n) k f) = (cCell cI (pa n) (gP C n) (gQ C n)).set j x) : (cW cI cJ cO h xa ea pa C).set (16 + (7 * n + j)) x = cW cI cJ cO h xa ea pa (cQF C n k f) := by
  show (cX cI cJ cO h xa ea pa C ++ cPool cI pa (gP C) (gQ C) (gN C)).set (16 + (7 * n + j)) x = _
  rw [List.set_append_right _ _ (by show 16 ≤ _; omega)]
  show cX cI cJ cO h xa ea pa C ++ (cPool cI pa (gP C) (gQ C) (gN C)).set (16 + (7 * n + j) - 16) x = cX cI cJ cO h xa ea pa C ++ cPool cI pa (gP C) (va_up (gQ C) n (va_up (gQ C n) k f)) (gN C)
  rw [Nat.add_sub_cancel_left, cPool_set (I' := gP C) (A' := va_up (gQ C) n (va_up (gQ C n) k f)) hn hj (fun _ _ => rfl) (fun i hi => if_neg hi) (by rw [va_up_self]; exact hc)]
theorem cP_eq10 {cI cJ cO : ClassId} {h : Nat} {xa : Nat → Nat} {ea : Nat} {pa : Nat → Nat → Nat} {C : CS} {n : Nat} {v : Int32} (hn : n < gN C) : (cW cI cJ cO h xa ea pa C).set (16 + (7 * n + 0)) (pa n 0, .inr (0, (aF (pa n) (gP C n)).set 10 (.int v))) = cW cI cJ cO h xa ea pa (cP C n 10 v) := cP_eq hn rfl
theorem cP_eq11 {cI cJ cO : ClassId} {h : Nat} {xa : Nat → Nat} {ea : Nat} {pa : Nat → Nat → Nat} {C : CS} {n : Nat} {v : Int32} (hn : n < gN C) : (cW cI cJ cO h xa ea pa C).set (16 + (7 * n + 0)) (pa n 0, .inr (0, (aF (pa n) (gP C n)).set 11 (.int v))) = cW cI cJ cO h xa ea pa (cP C n 11 v) := cP_eq hn rfl
theorem cP_eq12 {cI cJ cO : ClassId} {h : Nat} {xa : Nat → Nat} {ea : Nat} {pa : Nat → Nat → Nat} {C : CS} {n : Nat} {v : Int32} (hn : n < gN C) : (cW cI cJ cO h xa ea pa C).set (16 + (7 * n + 0)) (pa n 0, .inr (0, (aF (pa n) (gP C n)).set 12 (.int v))) = cW cI cJ cO h xa ea pa (cP C n 12 v) := cP_eq hn rfl
theorem cP_eq13 {cI cJ cO : ClassId} {h : Nat} {xa : Nat → Nat} {ea : Nat} {pa : Nat → Nat → Nat} {C : CS} {n : Nat} {v : Int32} (hn : n < gN C) : (cW cI cJ cO h xa ea pa C).set (16 + (7 * n + 0)) (pa n 0, .inr (0, (aF (pa n) (gP C n)).set 13 (.int v))) = cW cI cJ cO h xa ea pa (cP C n 13 v) := cP_eq hn rfl
theorem cP_eq14 {cI cJ cO : ClassId} {h : Nat} {xa : Nat → Nat} {ea : Nat} {pa : Nat → Nat → Nat} {C : CS} {n : Nat} {v : Int32} (hn : n < gN C) : (cW cI cJ cO h xa ea pa C).set (16 + (7 * n + 0)) (pa n 0, .inr (0, (aF (pa n) (gP C n)).set 14 (.int v))) = cW cI cJ cO h xa ea pa (cP C n 14 v) := cP_eq hn rfl
theorem cP_eq15 {cI cJ cO : ClassId} {h : Nat} {xa : Nat → Nat} {ea : Nat} {pa : Nat → Nat → Nat} {C : CS} {n : Nat} {v : Int32} (hn : n < gN C) : (cW cI cJ cO h xa ea pa C).set (16 + (7 * n + 0)) (pa n 0, .inr (0, (aF (pa n) (gP C n)).set 15 (.int v))) = cW cI cJ cO h xa ea pa (cP C n 15 v) := cP_eq hn rfl
theorem cP_eq16 {cI cJ cO : ClassId} {h : Nat} {xa : Nat → Nat} {ea : Nat} {pa : Nat → Nat → Nat} {C : CS} {n : Nat} {v : Int32} (hn : n < gN C) : (cW cI cJ cO h xa ea pa C).set (16 + (7 * n + 0)) (pa n 0, .inr (0, (aF (pa n) (gP C n)).set 16 (.int v))) = cW cI cJ cO h xa ea pa (cP C n 16 v) := cP_eq hn rfl
theorem cP_eq17 {cI cJ cO : ClassId} {h : Nat} {xa : Nat → Nat} {ea : Nat} {pa : Nat → Nat → Nat} {C : CS} {n : Nat} {v : Int32} (hn : n < gN C) : (cW cI cJ cO h xa ea pa C).set (16 + (7 * n + 0)) (pa n 0, .inr (0, (aF (pa n) (gP C n)).set 17 (.int v))) = cW cI cJ cO h xa ea pa (cP C n 17 v) := cP_eq hn rfl
theorem cP_eq18 {cI cJ cO : ClassId} {h : Nat} {xa : Nat → Nat} {ea : Nat} {pa : Nat → Nat → Nat} {C : CS} {n : Nat} {v : Int32} (hn : n < gN C) : (cW cI cJ cO h xa ea pa C).set (16 + (7 * n + 0)) (pa n 0, .inr (0, (aF (pa n) (gP C n)).set 18 (.int v))) = cW cI cJ cO h xa ea pa (cP C n 18 v) := cP_eq hn rfl
theorem cP_eq19 {cI cJ cO : ClassId} {h : Nat} {xa : Nat → Nat} {ea : Nat} {pa : Nat → Nat → Nat} {C : CS} {n : Nat} {v : Int32} (hn : n < gN C) : (cW cI cJ cO h xa ea pa C).set (16 + (7 * n + 0)) (pa n 0, .inr (0, (aF (pa n) (gP C n)).set 19 (.int v))) = cW cI cJ cO h xa ea pa (cP C n 19 v) := cP_eq hn rfl
theorem cQ_eq4 {cI cJ cO : ClassId} {h : Nat} {xa : Nat → Nat} {ea : Nat} {pa : Nat → Nat → Nat} {C : CS} {n : Nat} {f : Nat → Int32} (hn : n < gN C) : (cW cI cJ cO h xa ea pa C).set (16 + (7 * n + 1)) (pa n 4, .inl (cI, 12, .inl f)) = cW cI cJ cO h xa ea pa (cQF C n 4 f) := cQ_eq hn (by omega) rfl
theorem cQ_eq5 {cI cJ cO : ClassId} {h : Nat} {xa : Nat → Nat} {ea : Nat} {pa : Nat → Nat → Nat} {C : CS} {n : Nat} {f : Nat → Int32} (hn : n < gN C) : (cW cI cJ cO h xa ea pa C).set (16 + (7 * n + 2)) (pa n 5, .inl (cI, 24, .inl f)) = cW cI cJ cO h xa ea pa (cQF C n 5 f) := cQ_eq hn (by omega) rfl
theorem cQ_eq6 {cI cJ cO : ClassId} {h : Nat} {xa : Nat → Nat} {ea : Nat} {pa : Nat → Nat → Nat} {C : CS} {n : Nat} {f : Nat → Int32} (hn : n < gN C) : (cW cI cJ cO h xa ea pa C).set (16 + (7 * n + 3)) (pa n 6, .inl (cI, 24, .inl f)) = cW cI cJ cO h xa ea pa (cQF C n 6 f) := cQ_eq hn (by omega) rfl
theorem cQ_eq7 {cI cJ cO : ClassId} {h : Nat} {xa : Nat → Nat} {ea : Nat} {pa : Nat → Nat → Nat} {C : CS} {n : Nat} {f : Nat → Int32} (hn : n < gN C) : (cW cI cJ cO h xa ea pa C).set (16 + (7 * n + 4)) (pa n 7, .inl (cI, 8, .inl f)) = cW cI cJ cO h xa ea pa (cQF C n 7 f) := cQ_eq hn (by omega) rfl
theorem cQ_eq8 {cI cJ cO : ClassId} {h : Nat} {xa : Nat → Nat} {ea : Nat} {pa : Nat → Nat → Nat} {C : CS} {n : Nat} {f : Nat → Int32} (hn : n < gN C) : (cW cI cJ cO h xa ea pa C).set (16 + (7 * n + 5)) (pa n 8, .inl (cI, 8, .inl f)) = cW cI cJ cO h xa ea pa (cQF C n 8 f) := cQ_eq hn (by omega) rfl
theorem cQ_eq9 {cI cJ cO : ClassId} {h : Nat} {xa : Nat → Nat} {ea : Nat} {pa : Nat → Nat → Nat} {C : CS} {n : Nat} {f : Nat → Int32} (hn : n < gN C) : (cW cI cJ cO h xa ea pa C).set (16 + (7 * n + 6)) (pa n 9, .inl (cI, 12, .inl f)) = cW cI cJ cO h xa ea pa (cQF C n 9 f) := cQ_eq hn (by omega) rfl
theorem cW_I12 {cI cJ cO : ClassId} {h : Nat} {xa : Nat → Nat} {ea : Nat} {pa : Nat → Nat → Nat} {C : CS} {v : Int32} : (cW cI cJ cO h xa ea pa C).set 0 (h, .inr (3, (hF xa C).set 12 (.int v))) = cW cI cJ cO h xa ea pa (cN C 12 v) := rfl
theorem cW_I13 {cI cJ cO : ClassId} {h : Nat} {xa : Nat → Nat} {ea : Nat} {pa : Nat → Nat → Nat} {C : CS} {v : Int32} : (cW cI cJ cO h xa ea pa C).set 0 (h, .inr (3, (hF xa C).set 13 (.int v))) = cW cI cJ cO h xa ea pa (cN C 13 v) := rfl
theorem cW_I14 {cI cJ cO : ClassId} {h : Nat} {xa : Nat → Nat} {ea : Nat} {pa : Nat → Nat → Nat} {C : CS} {v : Int32} : (cW cI cJ cO h xa ea pa C).set 0 (h, .inr (3, (hF xa C).set 14 (.int v))) = cW cI cJ cO h xa ea pa (cN C 14 v) := rfl
theorem cW_I15 {cI cJ cO : ClassId} {h : Nat} {xa : Nat → Nat} {ea : Nat} {pa : Nat → Nat → Nat} {C : CS} {v : Int32} : (cW cI cJ cO h xa ea pa C).set 0 (h, .inr (3, (hF xa C).set 15 (.int v))) = cW cI cJ cO h xa ea pa (cN C 15 v) := rfl
theorem cW_I16 {cI cJ cO : ClassId} {h : Nat} {xa : Nat → Nat} {ea : Nat} {pa : Nat → Nat → Nat} {C : CS} {v : Int32} : (cW cI cJ cO h xa ea pa C).set 0 (h, .inr (3, (hF xa C).set 16 (.int v))) = cW cI cJ cO h xa ea pa (cN C 16 v) := rfl
theorem cW_I17 {cI cJ cO : ClassId} {h : Nat} {xa : Nat → Nat} {ea : Nat} {pa : Nat → Nat → Nat} {C : CS} {v : Int32} : (cW cI cJ cO h xa ea pa C).set 0 (h, .inr (3, (hF xa C).set 17 (.int v))) = cW cI cJ cO h xa ea pa (cN C 17 v) := rfl
theorem cW_I21 {cI cJ cO : ClassId} {h : Nat} {xa : Nat → Nat} {ea : Nat} {pa : Nat → Nat → Nat} {C : CS} {v : Int32} : (cW cI cJ cO h xa ea pa C).set 11 (xa 10, .inr (1, (bF xa ea C).set 1 (.int v))) = cW cI cJ cO h xa ea pa (cN C 21 v) := rfl
theorem cW_I22 {cI cJ cO : ClassId} {h : Nat} {xa : Nat → Nat} {ea : Nat} {pa : Nat → Nat → Nat} {C : CS} {v : Int32} : (cW cI cJ cO h xa ea pa C).set 11 (xa 10, .inr (1, (bF xa ea C).set 2 (.int v))) = cW cI cJ cO h xa ea pa (cN C 22 v) := rfl
theorem cW_I32 {cI cJ cO : ClassId} {h : Nat} {xa : Nat → Nat} {ea : Nat} {pa : Nat → Nat → Nat} {C : CS} {v : Int32} : (cW cI cJ cO h xa ea pa C).set 13 (xa 11, .inr (2, (wF xa C).set 2 (.int v))) = cW cI cJ cO h xa ea pa (cN C 32 v) := rfl
theorem cW_F0 {cI cJ cO : ClassId} {h : Nat} {xa : Nat → Nat} {ea : Nat} {pa : Nat → Nat → Nat} {C : CS} {f : Nat → Int32} : (cW cI cJ cO h xa ea pa C).set 1 (xa 0, .inl (cI, 96, .inl f)) = cW cI cJ cO h xa ea pa (cAF C 0 f) := rfl
theorem cW_F1 {cI cJ cO : ClassId} {h : Nat} {xa : Nat → Nat} {ea : Nat} {pa : Nat → Nat → Nat} {C : CS} {f : Nat → Int32} : (cW cI cJ cO h xa ea pa C).set 2 (xa 1, .inl (cI, 8, .inl f)) = cW cI cJ cO h xa ea pa (cAF C 1 f) := rfl
theorem cW_F2 {cI cJ cO : ClassId} {h : Nat} {xa : Nat → Nat} {ea : Nat} {pa : Nat → Nat → Nat} {C : CS} {f : Nat → Int32} : (cW cI cJ cO h xa ea pa C).set 3 (xa 2, .inl (cI, 4, .inl f)) = cW cI cJ cO h xa ea pa (cAF C 2 f) := rfl
theorem cW_F3 {cI cJ cO : ClassId} {h : Nat} {xa : Nat → Nat} {ea : Nat} {pa : Nat → Nat → Nat} {C : CS} {f : Nat → Int32} : (cW cI cJ cO h xa ea pa C).set 4 (xa 3, .inl (cI, 8, .inl f)) = cW cI cJ cO h xa ea pa (cAF C 3 f) := rfl
theorem cW_F4 {cI cJ cO : ClassId} {h : Nat} {xa : Nat → Nat} {ea : Nat} {pa : Nat → Nat → Nat} {C : CS} {f : Nat → Int32} : (cW cI cJ cO h xa ea pa C).set 5 (xa 4, .inl (cI, 32, .inl f)) = cW cI cJ cO h xa ea pa (cAF C 4 f) := rfl
theorem cW_F6 {cI cJ cO : ClassId} {h : Nat} {xa : Nat → Nat} {ea : Nat} {pa : Nat → Nat → Nat} {C : CS} {f : Nat → Int32} : (cW cI cJ cO h xa ea pa C).set 7 (xa 6, .inl (cI, 80, .inl f)) = cW cI cJ cO h xa ea pa (cAF C 6 f) := rfl
theorem cW_F7 {cI cJ cO : ClassId} {h : Nat} {xa : Nat → Nat} {ea : Nat} {pa : Nat → Nat → Nat} {C : CS} {f : Nat → Int32} : (cW cI cJ cO h xa ea pa C).set 8 (xa 7, .inl (cI, 80, .inl f)) = cW cI cJ cO h xa ea pa (cAF C 7 f) := rfl
theorem cW_F8 {cI cJ cO : ClassId} {h : Nat} {xa : Nat → Nat} {ea : Nat} {pa : Nat → Nat → Nat} {C : CS} {f : Nat → Int32} : (cW cI cJ cO h xa ea pa C).set 9 (xa 8, .inl (cI, 36, .inl f)) = cW cI cJ cO h xa ea pa (cAF C 8 f) := rfl
theorem cW_F9 {cI cJ cO : ClassId} {h : Nat} {xa : Nat → Nat} {ea : Nat} {pa : Nat → Nat → Nat} {C : CS} {f : Nat → Int32} : (cW cI cJ cO h xa ea pa C).set 10 (xa 9, .inl (cI, 4, .inl f)) = cW cI cJ cO h xa ea pa (cAF C 9 f) := rfl
theorem cW_F20 {cI cJ cO : ClassId} {h : Nat} {xa : Nat → Nat} {ea : Nat} {pa : Nat → Nat → Nat} {C : CS} {f : Nat → Int32} : (cW cI cJ cO h xa ea pa C).set 12 (ea, .inl (cI, gE C, .inl f)) = cW cI cJ cO h xa ea pa (cAF C 20 f) := rfl
theorem cW_L30 {cI cJ cO : ClassId} {h : Nat} {xa : Nat → Nat} {ea : Nat} {pa : Nat → Nat → Nat} {C : CS} {f : Nat → Int64} : (cW cI cJ cO h xa ea pa C).set 14 (xa 30, .inl (cJ, 36, .inr (.inl f))) = cW cI cJ cO h xa ea pa (cLF C 30 f) := rfl
theorem cW_L31 {cI cJ cO : ClassId} {h : Nat} {xa : Nat → Nat} {ea : Nat} {pa : Nat → Nat → Nat} {C : CS} {f : Nat → Int64} : (cW cI cJ cO h xa ea pa C).set 15 (xa 31, .inl (cJ, 36, .inr (.inl f))) = cW cI cJ cO h xa ea pa (cLF C 31 f) := rfl
theorem k_lc {β : Type} {U C : CS} {f : CS → Option β} {b : β} (h : k_let U f = some b) (hN : gN U = gN C) (hE : gE U = gE C) : ∃ X : CS, X = U ∧ gN X = gN C ∧ gE X = gE C ∧ f X = some b := ⟨U, rfl, hN, hE, h⟩
theorem k_nn {x : Int32} (h : 0 ≤ x.toInt) : ¬ x < 0 := fun q => by have q := k_lt q; have e : (0 : Int32).toInt = 0 := (by decide); omega
theorem k_oneP {D : va_G} {cl : List vw_C} {ws : va_W} {H : Heap} {q : Nat} {c : Nat × va_E} (he : ws[q]? = some c) (hP : va_P D cl ws H) : va_P D cl [c] H := fun k x hk => by
  cases k with
  | zero => cases hk; exact hP q _ he
  | succ k => cases hk
theorem k_oneD {A : Nat → Prop} {ws : va_W} {q : Nat} {c : Nat × va_E} (he : ws[q]? = some c) (hD : va_D A ws) : va_D A [c] := by
  refine ⟨fun i j p r hi hj _ => ?_, fun k x hk => ?_⟩
  · cases i with
    | zero => cases j with
      | zero => rfl
      | succ j => cases hj
    | succ i => cases hi
  · cases k with
    | zero => cases hk; exact hD.2 q _ he
    | succ k => cases hk
theorem k_oneS {D : va_G} {cl : List vw_C} {A : Nat → Prop} {ws : va_W} {H H1 : Heap} {q a : Nat} {e e' : va_E} (he : ws[q]? = some (a, e)) (hP : va_P D cl ws H) (hD : va_D A ws) (hk1 : ∀ x : Nat, x < H.size → ¬ va_A [(a, e)] H.size x → H1[x]? = H[x]?) (hP1 : va_P D cl [(a, e')] H1) : va_P D cl (ws.set q (a, e')) H1 ∧ va_D A (ws.set q (a, e')) := by
  refine ⟨fun k x hk => ?_, hD.set he⟩
  by_cases hkq : k = q
  · subst hkq
    rw [List.getElem?_set_self (List.getElem?_eq_some_iff.mp he).1] at hk
    cases hk
    exact hP1 0 _ rfl
  · rw [List.getElem?_set_ne (fun h => hkq h.symm)] at hk
    have h1 := hP k x hk
    refine h1.kept (hk1 x.1 h1.lt (fun ha => ?_))
    rcases ha with ⟨k', e'', hk'⟩ | ha
    · cases k' with
      | zero => cases hk'; exact hkq (hD.1 k q x (x.1, _) hk he rfl)
      | succ k' => cases hk'
    · have := h1.lt; omega

theorem k_fil_0 (v : Int32) (f : Nat → Int32) : k_fil (0 : Int32).toNatClampNeg v f = f := by funext j; exact if_neg (by simp [k_cl])
theorem k_fil_s {i : Int32} {v : Int32} {f : Nat → Int32} (e : (i + 1).toInt = i.toInt + 1) (h : 0 ≤ i.toInt) : upd (k_fil i.toNatClampNeg v f) i.toNatClampNeg v = k_fil (i + 1).toNatClampNeg v f := by
  funext j
  simp only [upd, k_fil, k_cl]
  split
  · rw [if_pos (by omega)]
  · split
    · rw [if_pos (by omega)]
    · rw [if_neg (by omega)]
theorem k_filL_0 (v : Int64) (f : Nat → Int64) : k_filL (0 : Int32).toNatClampNeg v f = f := by funext j; exact if_neg (by simp [k_cl])
theorem k_filL_s {i : Int32} {v : Int64} {f : Nat → Int64} (e : (i + 1).toInt = i.toInt + 1) (h : 0 ≤ i.toInt) : vp_updL (k_filL i.toNatClampNeg v f) i.toNatClampNeg v = k_filL (i + 1).toNatClampNeg v f := by
  funext j
  simp only [vp_updL, k_filL, k_cl]
  split
  · rw [if_pos (by omega)]
  · split
    · rw [if_pos (by omega)]
    · rw [if_neg (by omega)]
set_option maxHeartbeats 4000000 in
set_option maxRecDepth 100000 in
theorem c_J7_fill_53178 {l : Launch} {D : va_G} {sz : Nat} {a : Nat} {v : Int32} {n : Nat} {f : Nat → Int32} {cI : ClassId} (hn : n < 2147483647) : Met l yJ7_fill_53178 wsJ7_fill_53178 ({ frames := 0, cells := 0, slots := 0, locals := 0 }) (va_Pc [.ref a, .int v] (k_Pre D [(cI, .int)] [(a, .inl (cI, n, .inl f))] sz)) (va_Qv (fun (u : va_W × List (ClassId × FieldType)) => (∃ (f2 : Nat → Int32), u = ([(a, .inl (cI, n, .inl f2))], [(cI, .int)]) ∧ f2 = k_fil n v f)) (k_B D (va_A [(a, .inl (cI, n, .inl f))] sz)) (va_A [(a, .inl (cI, n, .inl f))] sz)) (0) (0) (va_A [(a, .inl (cI, n, .inl f))] sz) := by
  refine Met.ofW (cc := cJ7_fill_53178) (maxL := 4) (ret := none) (by decide) rfl ?_
  intro p e s m args below meth c s₁ B hml hv
  obtain ⟨rfl, hsz, hP, hK, hD0⟩ := hv
  have hx := B.exec
  have hb := B.bytes
  have hr := B.returns
  have hts := atoms_spec (ws := wsJ7_fill_53178) B.pre
  have hown : s.vm.findClass RJ7 = some m.cls := findClass_of_methodNamed B.named
  have hlocks := B.notSynchronized
  subst hsz
  have hD := hD0.self (sz := s.heap.size)
  generalize hAe : va_A [(a, .inl (cI, n, .inl f))] s.heap.size = A at hD ⊢
  have hA : ∀ q : Nat, s.heap.size ≤ q → A q := fun q h => by rw [← hAe]; exact Or.inr h
  have hS : va_S A s.heap s.heap [] := va_S.rf
  have hl := lv_entry ([.ref a, .int v]) (n := 4) (Nat.le_of_ble_eq_true rfl)
  rw [lg_entry_eq]
  generalize (lg_sl ([.ref a, .int v]) ++ List.replicate (4 - (lg_sl ([.ref a, .int v])).length) Slot.unset).toArray = ls at hl ⊢
  have hl : lv_has ls 4 [(0, .ref a), (1, .int v)] := hl
  refine k_Q (fun Q hQ => ?_)
  have hn0 : (nI n).toInt = n := nI_toInt (by omega)
  refine lv_iconst (v := 0) hx hb dJ7_fill_53178_0 (by decide) ?_
  refine lv_istore_n (lv' := [(2, .int 0), (0, .ref a), (1, .int v)]) hx hb dJ7_fill_53178_1 rfl hl (by decide) rfl (fun ls hl => ?_)
  refine lv_aload_n hx hb dJ7_fill_53178_2 rfl (lv_at hl 1 rfl) ?_
  refine va_alen hx hb hK hP 0 0 rfl rfl (v := nI n) (by first | rfl | decide) dJ7_fill_53178_3 ?_
  refine lv_istore_n (lv' := [(3, .int (nI n)), (2, .int 0), (0, .ref a), (1, .int v)]) hx hb dJ7_fill_53178_4 rfl hl (by decide) rfl (fun ls hl => ?_)
  have loop5 : ∀ (k : Nat) (i : Int32) (ff : Nat → Int32) (H : Heap) (locs : List Loc) (ls : Array Slot), (0 ≤ i.toInt) → (i.toInt + k = n) → (ff = k_fil i.toNatClampNeg v f) → va_P D vwCl [(a, .inl (cI, n, .inl ff))] H → va_D A [(a, .inl (cI, n, .inl ff))] → va_S A s.heap H locs → lv_has ls 4 [(2, .int i), (3, .int (nI n)), (0, .ref a), (1, .int v)] → W p l e (headSpec wsJ7_fill_53178 ({ frames := 0, cells := 0, slots := 0, locals := 0 })).room s m ([.ref a, .int v] : List Value).toArray below meth c H locs (0) (0) Q (F0 m 5 ls []) := by
    intro k5
    induction k5 with
    | zero =>
      intro i ff H locs ls h0 hi hfe hP hD hS hl
      refine lv_iload_n hx hb dJ7_fill_53178_5 rfl (lv_at hl 0 rfl) ?_
      refine lv_iload_n hx hb dJ7_fill_53178_6 rfl (lv_at hl 1 rfl) ?_
      refine lv_icmp_ge (tgt := 20) hx hb dJ7_fill_53178_7 (by decide) (fun c1 => ?_) (fun c1 => ?_)
      · skip
        have c1 := k_le c1
        subst hQ
        have hP := hP.sub (ws' := [(a, .inl (cI, n, .inl ff))]) [0] rfl
        have hD := hD.sub (ws' := [(a, .inl (cI, n, .inl ff))]) [0] (by decide) rfl
        have hK := hK.sub (tys' := [(cI, .int)]) [0] rfl
        refine W.widen (k := 0) (n := 0) (by decide) (by decide) ?_
        exact W.vret hx hb hr (fun t ht hW => ⟨⟨([(a, .inl (cI, n, .inl ff))], [(cI, .int)]), rfl, ⟨ff, rfl, (by rw [hfe, show i.toNatClampNeg = n from by simp only [k_cl]; omega])⟩, ⟨by rw [ht]; exact hP, va_K.moved hW.alike hK, hD⟩⟩, hS.F ht⟩) hS.2.2 dJ7_fill_53178_20
      · skip
        have c1 := k_nle c1
        exfalso; omega
    | succ k5 ih5 =>
      intro i ff H locs ls h0 hi hfe hP hD hS hl
      refine lv_iload_n hx hb dJ7_fill_53178_5 rfl (lv_at hl 0 rfl) ?_
      refine lv_iload_n hx hb dJ7_fill_53178_6 rfl (lv_at hl 1 rfl) ?_
      refine lv_icmp_ge (tgt := 20) hx hb dJ7_fill_53178_7 (by decide) (fun c2 => ?_) (fun c2 => ?_)
      · skip
        have c2 := k_le c2
        subst hQ
        have hP := hP.sub (ws' := [(a, .inl (cI, n, .inl ff))]) [0] rfl
        have hD := hD.sub (ws' := [(a, .inl (cI, n, .inl ff))]) [0] (by decide) rfl
        have hK := hK.sub (tys' := [(cI, .int)]) [0] rfl
        refine W.widen (k := 0) (n := 0) (by decide) (by decide) ?_
        exact W.vret hx hb hr (fun t ht hW => ⟨⟨([(a, .inl (cI, n, .inl ff))], [(cI, .int)]), rfl, ⟨ff, rfl, (by rw [hfe, show i.toNatClampNeg = n from by simp only [k_cl]; omega])⟩, ⟨by rw [ht]; exact hP, va_K.moved hW.alike hK, hD⟩⟩, hS.F ht⟩) hS.2.2 dJ7_fill_53178_20
      · skip
        have c2 := k_nle c2
        refine lv_aload_n hx hb dJ7_fill_53178_10 rfl (lv_at hl 2 rfl) ?_
        refine lv_iload_n hx hb dJ7_fill_53178_11 rfl (lv_at hl 0 rfl) ?_
        refine lv_iload_n hx hb dJ7_fill_53178_12 rfl (lv_at hl 3 rfl) ?_
        have hi13 : vp_in i n := (k_in (by omega) (by omega))
        refine va_iast hx hb hK hP hD hS 0 0 rfl rfl hi13 dJ7_fill_53178_13 (fun H locs hP hD hS => ?_)
        have hP : va_P D vwCl [(a, .inl (cI, n, .inl (upd ff i.toNatClampNeg v)))] H := hP
        have hD : va_D A [(a, .inl (cI, n, .inl (upd ff i.toNatClampNeg v)))] := hD
        refine lv_iinc (v := i + 1) (lv' := [(2, .int (i + 1)), (3, .int (nI n)), (0, .ref a), (1, .int v)]) hx hb dJ7_fill_53178_14 hl (k := 0) rfl (by rfl) (by decide) rfl (fun ls hl => ?_)
        refine lv_goto (tgt := 5) hx hb dJ7_fill_53178_17 (by decide) ?_
        have e1 := k_inc (x := i) (by omega)
        exact ih5 (i + 1) (upd ff i.toNatClampNeg v) _ _ _ (by omega) (by omega) (by rw [hfe]; exact k_fil_s e1 (by omega)) (hP.sub [0] rfl) (hD.sub [0] (by decide) rfl) hS (lv_sub hl [0, 1, 2, 3] rfl)
  exact loop5 n 0 f _ _ _ (by decide) (by rw [show (0 : Int32).toInt = 0 from by decide]; omega) (by exact (k_fil_0 v f).symm) (hP.sub [0] rfl) (hD.sub [0] (by decide) rfl) hS (lv_sub hl [1, 0, 2, 3] rfl)
set_option maxHeartbeats 4000000 in
set_option maxRecDepth 100000 in
theorem c_J7_fill_d0a16 {l : Launch} {D : va_G} {sz : Nat} {a : Nat} {v : Int64} {n : Nat} {f : Nat → Int64} {cJ : ClassId} (hn : n < 2147483647) : Met l yJ7_fill_d0a16 wsJ7_fill_d0a16 ({ frames := 0, cells := 0, slots := 0, locals := 0 }) (va_Pc [.ref a, .long v] (k_Pre D [(cJ, .long)] [(a, .inl (cJ, n, .inr (.inl f)))] sz)) (va_Qv (fun (u : va_W × List (ClassId × FieldType)) => (∃ (f2 : Nat → Int64), u = ([(a, .inl (cJ, n, .inr (.inl f2)))], [(cJ, .long)]) ∧ f2 = k_filL n v f)) (k_B D (va_A [(a, .inl (cJ, n, .inr (.inl f)))] sz)) (va_A [(a, .inl (cJ, n, .inr (.inl f)))] sz)) (0) (0) (va_A [(a, .inl (cJ, n, .inr (.inl f)))] sz) := by
  refine Met.ofW (cc := cJ7_fill_d0a16) (maxL := 5) (ret := none) (by decide) rfl ?_
  intro p e s m args below meth c s₁ B hml hv
  obtain ⟨rfl, hsz, hP, hK, hD0⟩ := hv
  have hx := B.exec
  have hb := B.bytes
  have hr := B.returns
  have hts := atoms_spec (ws := wsJ7_fill_d0a16) B.pre
  have hown : s.vm.findClass RJ7 = some m.cls := findClass_of_methodNamed B.named
  have hlocks := B.notSynchronized
  subst hsz
  have hD := hD0.self (sz := s.heap.size)
  generalize hAe : va_A [(a, .inl (cJ, n, .inr (.inl f)))] s.heap.size = A at hD ⊢
  have hA : ∀ q : Nat, s.heap.size ≤ q → A q := fun q h => by rw [← hAe]; exact Or.inr h
  have hS : va_S A s.heap s.heap [] := va_S.rf
  have hl := lv_entry ([.ref a, .long v]) (n := 5) (Nat.le_of_ble_eq_true rfl)
  rw [lg_entry_eq]
  generalize (lg_sl ([.ref a, .long v]) ++ List.replicate (5 - (lg_sl ([.ref a, .long v])).length) Slot.unset).toArray = ls at hl ⊢
  have hl : lv_has ls 5 [(0, .ref a), (1, .long v)] := hl
  refine k_Q (fun Q hQ => ?_)
  have hn0 : (nI n).toInt = n := nI_toInt (by omega)
  refine lv_iconst (v := 0) hx hb dJ7_fill_d0a16_0 (by decide) ?_
  refine lv_istore_n (lv' := [(3, .int 0), (0, .ref a), (1, .long v)]) hx hb dJ7_fill_d0a16_1 rfl hl (by decide) rfl (fun ls hl => ?_)
  refine lv_aload_n hx hb dJ7_fill_d0a16_2 rfl (lv_at hl 1 rfl) ?_
  refine va_alen hx hb hK hP 0 0 rfl rfl (v := nI n) (by first | rfl | decide) dJ7_fill_d0a16_3 ?_
  refine lv_istore (lv' := [(4, .int (nI n)), (3, .int 0), (0, .ref a), (1, .long v)]) hx hb dJ7_fill_d0a16_4 hl (by decide) rfl (fun ls hl => ?_)
  have loop6 : ∀ (k : Nat) (i : Int32) (ff : Nat → Int64) (H : Heap) (locs : List Loc) (ls : Array Slot), (0 ≤ i.toInt) → (i.toInt + k = n) → (ff = k_filL i.toNatClampNeg v f) → va_P D vwCl [(a, .inl (cJ, n, .inr (.inl ff)))] H → va_D A [(a, .inl (cJ, n, .inr (.inl ff)))] → va_S A s.heap H locs → lv_has ls 5 [(3, .int i), (4, .int (nI n)), (0, .ref a), (1, .long v)] → W p l e (headSpec wsJ7_fill_d0a16 ({ frames := 0, cells := 0, slots := 0, locals := 0 })).room s m ([.ref a, .long v] : List Value).toArray below meth c H locs (0) (0) Q (F0 m 6 ls []) := by
    intro k6
    induction k6 with
    | zero =>
      intro i ff H locs ls h0 hi hfe hP hD hS hl
      refine lv_iload_n hx hb dJ7_fill_d0a16_6 rfl (lv_at hl 0 rfl) ?_
      refine lv_iload hx hb dJ7_fill_d0a16_7 (lv_at hl 1 rfl) ?_
      refine lv_icmp_ge (tgt := 22) hx hb dJ7_fill_d0a16_9 (by decide) (fun c1 => ?_) (fun c1 => ?_)
      · skip
        have c1 := k_le c1
        subst hQ
        have hP := hP.sub (ws' := [(a, .inl (cJ, n, .inr (.inl ff)))]) [0] rfl
        have hD := hD.sub (ws' := [(a, .inl (cJ, n, .inr (.inl ff)))]) [0] (by decide) rfl
        have hK := hK.sub (tys' := [(cJ, .long)]) [0] rfl
        refine W.widen (k := 0) (n := 0) (by decide) (by decide) ?_
        exact W.vret hx hb hr (fun t ht hW => ⟨⟨([(a, .inl (cJ, n, .inr (.inl ff)))], [(cJ, .long)]), rfl, ⟨ff, rfl, (by rw [hfe, show i.toNatClampNeg = n from by simp only [k_cl]; omega])⟩, ⟨by rw [ht]; exact hP, va_K.moved hW.alike hK, hD⟩⟩, hS.F ht⟩) hS.2.2 dJ7_fill_d0a16_22
      · skip
        have c1 := k_nle c1
        exfalso; omega
    | succ k6 ih6 =>
      intro i ff H locs ls h0 hi hfe hP hD hS hl
      refine lv_iload_n hx hb dJ7_fill_d0a16_6 rfl (lv_at hl 0 rfl) ?_
      refine lv_iload hx hb dJ7_fill_d0a16_7 (lv_at hl 1 rfl) ?_
      refine lv_icmp_ge (tgt := 22) hx hb dJ7_fill_d0a16_9 (by decide) (fun c2 => ?_) (fun c2 => ?_)
      · skip
        have c2 := k_le c2
        subst hQ
        have hP := hP.sub (ws' := [(a, .inl (cJ, n, .inr (.inl ff)))]) [0] rfl
        have hD := hD.sub (ws' := [(a, .inl (cJ, n, .inr (.inl ff)))]) [0] (by decide) rfl
        have hK := hK.sub (tys' := [(cJ, .long)]) [0] rfl
        refine W.widen (k := 0) (n := 0) (by decide) (by decide) ?_
        exact W.vret hx hb hr (fun t ht hW => ⟨⟨([(a, .inl (cJ, n, .inr (.inl ff)))], [(cJ, .long)]), rfl, ⟨ff, rfl, (by rw [hfe, show i.toNatClampNeg = n from by simp only [k_cl]; omega])⟩, ⟨by rw [ht]; exact hP, va_K.moved hW.alike hK, hD⟩⟩, hS.F ht⟩) hS.2.2 dJ7_fill_d0a16_22
      · skip
        have c2 := k_nle c2
        refine lv_aload_n hx hb dJ7_fill_d0a16_12 rfl (lv_at hl 2 rfl) ?_
        refine lv_iload_n hx hb dJ7_fill_d0a16_13 rfl (lv_at hl 0 rfl) ?_
        refine lv_lload_n hx hb dJ7_fill_d0a16_14 rfl (lv_at hl 3 rfl) ?_
        have hi15 : vp_in i n := (k_in (by omega) (by omega))
        refine va_last hx hb hK hP hD hS 0 0 rfl rfl hi15 dJ7_fill_d0a16_15 (fun H locs hP hD hS => ?_)
        have hP : va_P D vwCl [(a, .inl (cJ, n, .inr (.inl (vp_updL ff i.toNatClampNeg v))))] H := hP
        have hD : va_D A [(a, .inl (cJ, n, .inr (.inl (vp_updL ff i.toNatClampNeg v))))] := hD
        refine lv_iinc (v := i + 1) (lv' := [(3, .int (i + 1)), (4, .int (nI n)), (0, .ref a), (1, .long v)]) hx hb dJ7_fill_d0a16_16 hl (k := 0) rfl (by rfl) (by decide) rfl (fun ls hl => ?_)
        refine lv_goto (tgt := 6) hx hb dJ7_fill_d0a16_19 (by decide) ?_
        have e1 := k_inc (x := i) (by omega)
        exact ih6 (i + 1) (vp_updL ff i.toNatClampNeg v) _ _ _ (by omega) (by omega) (by rw [hfe]; exact k_filL_s e1 (by omega)) (hP.sub [0] rfl) (hD.sub [0] (by decide) rfl) hS (lv_sub hl [0, 1, 2, 3] rfl)
  exact loop6 n 0 f _ _ _ (by decide) (by rw [show (0 : Int32).toInt = 0 from by decide]; omega) (by exact (k_filL_0 v f).symm) (hP.sub [0] rfl) (hD.sub [0] (by decide) rfl) hS (lv_sub hl [1, 0, 2, 3] rfl)
