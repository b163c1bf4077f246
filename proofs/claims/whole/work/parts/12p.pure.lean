/-! plain facts on rows of numbers -/
theorem mo_put6 (W : Nat → Int32) (a : Nat) (x0 x1 x2 x3 x4 x5 : Int32) : upd (upd (upd (upd (upd (upd W a x0) (a + 1) x1) (a + 2) x2) (a + 3) x3) (a + 4) x4) (a + 5) x5 = mo_put W a 6 (mo_r6 x0 x1 x2 x3 x4 x5) := by
  funext j
  unfold mo_put
  by_cases h : a ≤ j ∧ j < a + 6
  · rw [if_pos h]
    obtain ⟨i, rfl⟩ : ∃ i, j = a + i := ⟨j - a, by omega⟩
    rw [show a + i - a = i by omega]
    have hi : i < 6 := by omega
    match i, hi with
    | 0, _ => simp [upd, mo_r6]
    | 1, _ => simp [upd, mo_r6]
    | 2, _ => simp [upd, mo_r6]
    | 3, _ => simp [upd, mo_r6]
    | 4, _ => simp [upd, mo_r6]
    | 5, _ => simp [upd, mo_r6]
    | i + 6, hi => omega
  · rw [if_neg h]
    simp (disch := omega) only [pk_un]
theorem mo_put5 (W : Nat → Int32) (a : Nat) (x0 x1 x2 x3 x4 : Int32) : upd (upd (upd (upd (upd W a x0) (a + 1) x1) (a + 2) x2) (a + 3) x3) (a + 4) x4 = mo_put W a 5 (mo_r5 x0 x1 x2 x3 x4) := by
  funext j
  unfold mo_put
  by_cases h : a ≤ j ∧ j < a + 5
  · rw [if_pos h]
    obtain ⟨i, rfl⟩ : ∃ i, j = a + i := ⟨j - a, by omega⟩
    rw [show a + i - a = i by omega]
    have hi : i < 5 := by omega
    match i, hi with
    | 0, _ => simp [upd, mo_r5]
    | 1, _ => simp [upd, mo_r5]
    | 2, _ => simp [upd, mo_r5]
    | 3, _ => simp [upd, mo_r5]
    | 4, _ => simp [upd, mo_r5]
    | i + 5, hi => omega
  · rw [if_neg h]
    simp (disch := omega) only [pk_un]
theorem mo_put3 (W : Nat → Int32) (a : Nat) (x0 x1 x2 : Int32) : upd (upd (upd W a x0) (a + 1) x1) (a + 2) x2 = mo_put W a 3 (mo_r3 x0 x1 x2) := by
  funext j
  unfold mo_put
  by_cases h : a ≤ j ∧ j < a + 3
  · rw [if_pos h]
    obtain ⟨i, rfl⟩ : ∃ i, j = a + i := ⟨j - a, by omega⟩
    rw [show a + i - a = i by omega]
    have hi : i < 3 := by omega
    match i, hi with
    | 0, _ => simp [upd, mo_r3]
    | 1, _ => simp [upd, mo_r3]
    | 2, _ => simp [upd, mo_r3]
    | i + 3, hi => omega
  · rw [if_neg h]
    simp (disch := omega) only [pk_un]
theorem ml_same {W : Nat → Int32} {i : Nat} {x : Int32} (h : W i = x) : upd W i x = W := by
  funext j
  by_cases hj : j = i
  · subst hj; rw [pk_us, h]
  · rw [pk_un hj]
theorem ml_plus0 (x : Int32) : x + nI 0 = x := by rw [nI_0]; exact Int32.add_zero x
theorem ml_n {r : Nat} (h : r ≤ 100000) : mo_n (nI r) = r := nI_clamp (by omega)
theorem ml_send0_full {W : Nat → Int32} {p k : Nat} {v : Int32} (h : W 11 = nI 24) : mo_send W 0 p k v = upd (upd (upd W (14 + 0) (W (14 + 0) + nI 1)) (42 + p) (W (42 + p) + nI 0)) 10 (W 10 + nI 1) := by
  unfold mo_send
  rw [if_pos h, if_neg (by decide), ml_plus0, ml_same (W := upd W (14 + 0) (W (14 + 0) + nI 1)) (i := 42 + p) (by rw [pk_un (by omega)])]
theorem ml_send1_full {W : Nat → Int32} {p k : Nat} {v : Int32} (h : W 11 = nI 24) : mo_send W 1 p k v = upd (upd (upd W (14 + 1) (W (14 + 1) + nI 1)) (42 + p) (W (42 + p) + mw_sz k)) 10 (W 10 + nI 1) := by
  unfold mo_send
  rw [if_pos h, if_pos rfl, pk_un (show (42 + p) ≠ 14 + 1 by omega)]
theorem ml_send0_add {W : Nat → Int32} {p k r : Nat} {v : Int32} (hr : W 11 = nI r) (hr2 : r ≤ 24) (h : ¬ nI r = nI 24) : mo_send W 0 p k v = upd (upd (upd (upd (upd (upd (upd (upd (upd W (14 + 0) (W (14 + 0) + nI 1)) (42 + p) (W (42 + p) + nI 0)) (327 + 6 * r) (nI 0)) (327 + 6 * r + 1) (nI p)) (327 + 6 * r + 2) (W (22 + p))) (327 + 6 * r + 3) (W (14 + 0))) (327 + 6 * r + 4) (nI k)) (327 + 6 * r + 5) v) 11 (nI r + nI 1) := by
  unfold mo_send
  rw [hr, if_neg h, if_neg (by decide), if_pos rfl, ml_plus0, ml_same (W := upd W (14 + 0) (W (14 + 0) + nI 1)) (i := 42 + p) (by rw [pk_un (by omega)]), mo_put6, ml_n (by omega)]
theorem ml_send1_add {W : Nat → Int32} {p k r : Nat} {v : Int32} (hr : W 11 = nI r) (hr2 : r ≤ 24) (h : ¬ nI r = nI 24) : mo_send W 1 p k v = upd (upd (upd (upd (upd (upd (upd (upd (upd W (14 + 1) (W (14 + 1) + nI 1)) (42 + p) (W (42 + p) + mw_sz k)) (327 + 6 * r) (nI 1)) (327 + 6 * r + 1) (nI p)) (327 + 6 * r + 2) (-1)) (327 + 6 * r + 3) (W (14 + 1))) (327 + 6 * r + 4) (nI k)) (327 + 6 * r + 5) v) 11 (nI r + nI 1) := by
  unfold mo_send
  rw [hr, if_neg h, if_pos rfl, if_neg (by decide), pk_un (show (42 + p) ≠ 14 + 1 by omega), mo_put6, ml_n (by omega)]
