theorem ml_bit01 {W : Nat → Int32} {e k c : Nat} (h : iv c W) (he : e < 2) (hk : k < 100) : W (127 + 100 * e + k) = nI (if decide (W (127 + 100 * e + k) = nI 1) = true then 1 else 0) := by
  obtain ⟨-, -, -, h4⟩ := h.2.2.2.2.2.2.2.1 e he
  rcases h4 k hk with q | q
  · rw [q]; rfl
  · rw [q]; rfl
theorem ml_cnt_y {P : Nat → Bool} {t : Nat} (h : P t = true) : mo_cnt P (t + 1) = mo_cnt P t + 1 := by show mo_cnt P t + (if P t then 1 else 0) = _; rw [if_pos h]
theorem ml_cnt_n {P : Nat → Bool} {t : Nat} (h : P t = false) : mo_cnt P (t + 1) = mo_cnt P t + 0 := by show mo_cnt P t + (if P t then 1 else 0) = _; rw [if_neg (by rw [h]; decide)]
theorem ml_set_t {W : Nat → Int32} {cu : Nat} (hcu : W 2 = nI cu) (h5 : cu < 5) (h1 : nI cu = W 3) (h2 : W (32 + cu) = nI 1) (h3 : ¬ W (22 + cu) < 0) (h4 : W 11 = 0) (h6 : W 12 = 0) (h7 : mo_ha W 0 = true) (h8 : mo_ha W 1 = true) : mo_settled W = true := by
  unfold mo_settled
  rw [hcu, ml_n (by omega), ← h1, h2, h4, h6, h7, h8]
  simp [Int32.not_lt.mp h3]
theorem ml_set_f {W : Nat → Int32} {cu : Nat} (hcu : W 2 = nI cu) (h5 : cu < 5) (h : ¬ nI cu = W 3 ∨ ¬ W (32 + cu) = nI 1 ∨ W (22 + cu) < 0 ∨ ¬ W 11 = 0 ∨ ¬ W 12 = 0 ∨ mo_ha W 0 = false ∨ mo_ha W 1 = false) : mo_settled W = false := by
  unfold mo_settled
  rw [hcu, ml_n (by omega)]
  rcases h with h | h | h | h | h | h | h
  · simp [h]
  · simp [h]
  · simp [Int32.not_le.mpr h]
  · simp [h]
  · simp [h]
  · simp [h]
  · simp [h]
theorem ml_good_t {b c d e : Int32} (h1 : mo_in b.toInt64 (-1) 99 = true) (h2 : mo_in c.toInt64 0 9999 = true) (h3 : mo_in d.toInt64 0 5 = true) (h4 : mo_in e.toInt64 0 99 = true) : mo_good b c d e = true := by
  have e1 : mo_in b.toInt64 (-1) 99 = (decide (-1 ≤ b) && decide (b < nI 100)) := by
    unfold mo_in
    rw [show (-1 : Int64) = (-1 : Int32).toInt64 by decide, show (99 : Int64) = (nI 99).toInt64 by decide]
    congr 1
    · simp only [mb_wide_le]
    · simp only [mb_wide_le]
      congr 1
      rw [eq_iff_iff, Int32.le_iff_toInt_le, Int32.lt_iff_toInt_lt, nI_toInt (by omega), nI_toInt (by omega)]
      omega
  have e2 : mo_in c.toInt64 0 9999 = mo_bl c 10000 := mo_in_bl (x := c) (g := 10000) (by omega) (by omega)
  have e3 : mo_in d.toInt64 0 5 = mo_bl d 6 := mo_in_bl (x := d) (g := 6) (by omega) (by omega)
  have e4 : mo_in e.toInt64 0 99 = mo_bl e 100 := mo_in_bl (x := e) (g := 100) (by omega) (by omega)
  unfold mo_good
  rw [← e1, ← e2, ← e3, ← e4, h1, h2, h3, h4]
  rfl
theorem ml_good_f {b c d e : Int32} (h : mo_in b.toInt64 (-1) 99 = false ∨ mo_in c.toInt64 0 9999 = false ∨ mo_in d.toInt64 0 5 = false ∨ mo_in e.toInt64 0 99 = false) : mo_good b c d e = false := by
  have e1 : mo_in b.toInt64 (-1) 99 = (decide (-1 ≤ b) && decide (b < nI 100)) := by
    unfold mo_in
    rw [show (-1 : Int64) = (-1 : Int32).toInt64 by decide, show (99 : Int64) = (nI 99).toInt64 by decide]
    congr 1
    · simp only [mb_wide_le]
    · simp only [mb_wide_le]
      congr 1
      rw [eq_iff_iff, Int32.le_iff_toInt_le, Int32.lt_iff_toInt_lt, nI_toInt (by omega), nI_toInt (by omega)]
      omega
  have e2 : mo_in c.toInt64 0 9999 = mo_bl c 10000 := mo_in_bl (x := c) (g := 10000) (by omega) (by omega)
  have e3 : mo_in d.toInt64 0 5 = mo_bl d 6 := mo_in_bl (x := d) (g := 6) (by omega) (by omega)
  have e4 : mo_in e.toInt64 0 99 = mo_bl e 100 := mo_in_bl (x := e) (g := 100) (by omega) (by omega)
  unfold mo_good
  rw [← e1, ← e2, ← e3, ← e4]
  rcases h with h | h | h | h <;> simp [h]
theorem ml_wr_is {W bo ba bi : Nat → Int32} {n t e v : Nat} (ht : t < n) (he : bo t = nI e) (hv : ba t = nI v) (he2 : e < 2) (hv2 : v < 40) (hy : ¬ W (127 + 100 * e + v) = bi t) (hno : ∀ j, j < t → W (127 + 100 * mo_n (bo j) + mo_n (ba j)) = bi j) : mo_wr W bo ba bi n = t :=
  ml_fst_is ht (by rw [he, hv, ml_n (by omega), ml_n (by omega)]; simp [hy]) (fun j hj => by simp [hno j hj])
theorem ml_wr_none {W bo ba bi : Nat → Int32} {n : Nat} (hno : ∀ j, j < n → W (127 + 100 * mo_n (bo j) + mo_n (ba j)) = bi j) : mo_wr W bo ba bi n = n :=
  ml_fst_none (fun j hj => by simp [hno j hj])
