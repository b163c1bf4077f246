theorem ml_cnt_pos {P : Nat → Bool} {k : Nat} : ∀ {n : Nat}, k < n → P k = true → 0 < mo_cnt P n
  | 0, h, _ => absurd h (Nat.not_lt_zero k)
  | n + 1, h, hp => by
    show 0 < mo_cnt P n + (if P n then 1 else 0)
    by_cases q : k = n
    · subst q; rw [if_pos hp]; omega
    · have := ml_cnt_pos (P := P) (k := k) (n := n) (by omega) hp; omega
theorem ml_cnt_le (P : Nat → Bool) : ∀ n, mo_cnt P n ≤ n
  | 0 => Nat.le_refl _
  | n + 1 => by
    show mo_cnt P n + (if P n then 1 else 0) ≤ n + 1
    have := ml_cnt_le P n
    split <;> omega
theorem ml_cnt_least {W : Nat → Int32} : nI (mo_cnt (fun k => decide (W (87 + k) = nI 1)) 40) = 0 ↔ ¬ mo_least W < 40 := by
  have hle := ml_cnt_le (fun k => decide (W (87 + k) = nI 1)) 40
  rw [← nI_0, nI_eq (by omega) (by omega)]
  constructor
  · intro h q
    have := ml_cnt_pos (P := fun k => decide (W (87 + k) = nI 1)) q (ml_fst_yes _ _ q)
    omega
  · intro h
    refine mo_cnt_0 (fun k hk => ?_)
    exact ml_fst_no (fun k => decide (W (87 + k) = nI 1)) 40 k (by unfold mo_least at h; omega)
theorem ml_in_bl {x : Int32} : mo_in x.toInt64 1 20 = (decide (nI 1 ≤ x) && decide (x ≤ nI 20)) := by
  unfold mo_in
  rw [show (1 : Int64) = (nI 1).toInt64 by decide, show (20 : Int64) = (nI 20).toInt64 by decide]
  congr 1
  · rw [decide_eq_decide]; exact mb_wide_le _ _
  · rw [decide_eq_decide]; exact mb_wide_le _ _
theorem ml_gtn {x : Int32} {n : Nat} (hn : n < 100000) (h : nI n < x) : ¬ x < nI (n + 1) := by
  intro q
  rw [Int32.lt_iff_toInt_lt] at h q
  rw [nI_toInt (by omega)] at h q
  omega
theorem ml_gt99 {x : Int32} (h : nI 99 < x) : ¬ x < nI 100 := ml_gtn (n := 99) (by omega) h
theorem ml_len {x : Int32} {n : Nat} (hn : n < 100000) (h : ¬ nI n < x) : x < nI (n + 1) := by
  rw [Int32.lt_iff_toInt_lt] at h ⊢
  rw [nI_toInt (by omega)] at h ⊢
  omega
theorem ml_le1 {x : Int32} (h : x ≤ nI 1) : x < nI 2 := ml_len (n := 1) (by omega) (Int32.not_lt.mpr h)
theorem ml_goodC {z u v t : Int32} (c12 : ¬ z < -1) (c18 : ¬ nI 99 < z) (c22 : ¬ u < 0) (c29 : ¬ nI 9999 < u) (c34 : ¬ v < 0) (c41 : ¬ nI 6 ≤ v) (c46 : ¬ t < 0) (c53 : t ≤ nI 99) : mo_good z u v t = true := by
  unfold mo_good mo_bl
  rw [decide_eq_true (Int32.not_lt.mp c12), decide_eq_true (ml_len (n := 99) (by omega) c18), decide_eq_true (Int32.not_lt.mp c22), decide_eq_true (ml_len (n := 9999) (by omega) c29), decide_eq_true (Int32.not_lt.mp c34), decide_eq_true (Int32.not_le.mp c41), decide_eq_true (Int32.not_lt.mp c46), decide_eq_true (ml_len (n := 99) (by omega) (Int32.not_lt.mpr c53))]
  rfl
