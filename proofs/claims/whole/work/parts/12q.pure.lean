theorem ml_cmp_lt {x y : Int64} : lg_cmp x y < 0 ↔ x < y := by
  unfold lg_cmp
  by_cases h1 : y < x
  · rw [if_pos h1]
    exact ⟨fun h => absurd h (by decide), fun h => by
      rw [Int64.lt_iff_toInt_lt] at h h1
      omega⟩
  · rw [if_neg h1]
    by_cases h2 : x = y
    · rw [if_pos h2]
      exact ⟨fun h => absurd h (by decide), fun h => by
        rw [h2, Int64.lt_iff_toInt_lt] at h
        omega⟩
    · rw [if_neg h2]
      refine ⟨fun _ => ?_, fun _ => by decide⟩
      rw [Int64.lt_iff_toInt_lt] at h1 ⊢
      rcases Int.lt_trichotomy x.toInt y.toInt with h | h | h
      · exact h
      · exact absurd (Int64.toInt_inj.mp h) h2
      · exact absurd h h1
theorem ml_cmp_gt {x y : Int64} : 0 < lg_cmp x y ↔ y < x := by
  unfold lg_cmp
  by_cases h1 : y < x
  · rw [if_pos h1]
    exact ⟨fun _ => h1, fun _ => by decide⟩
  · rw [if_neg h1]
    by_cases h2 : x = y
    · rw [if_pos h2]
      exact ⟨fun h => absurd h (by decide), fun h => absurd h h1⟩
    · rw [if_neg h2]
      exact ⟨fun h => absurd h (by decide), fun h => absurd h h1⟩
theorem ml_cmp_eq {x y : Int64} : lg_cmp x y = 0 ↔ x = y := by
  unfold lg_cmp
  by_cases h1 : y < x
  · rw [if_pos h1]
    exact ⟨fun h => absurd h (by decide), fun h => by
      rw [h, Int64.lt_iff_toInt_lt] at h1
      omega⟩
  · rw [if_neg h1]
    by_cases h2 : x = y
    · rw [if_pos h2]; exact ⟨fun _ => h2, fun _ => rfl⟩
    · rw [if_neg h2]
      exact ⟨fun h => absurd h (by decide), fun h => absurd h h2⟩
/-- Java's in(v, low, high) -/
def mo_in (x lo hi : Int64) : Bool := decide (lo ≤ x) && decide (x ≤ hi)
theorem ml_cpy0 (W : Nat → Int32) (sp dp : Nat) : va_cpy W W sp dp 0 = W := by
  funext j
  rw [pk_cpy_out (by omega)]
theorem ml_cpyS (W : Nat → Int32) {sp dp t : Nat} (h : dp ≤ sp) : upd (va_cpy W W sp dp t) (dp + t) (va_cpy W W sp dp t (sp + t)) = va_cpy W W sp dp (t + 1) := by
  funext j
  rw [pk_cpy_out (f := W) (g := W) (sp := sp) (dp := dp) (n := t) (j := sp + t) (by omega)]
  by_cases hj : j = dp + t
  · subst hj
    rw [pk_us, pk_cpy_in (by omega) (by omega)]
    congr 1
    omega
  · rw [pk_un hj]
    by_cases h2 : dp ≤ j ∧ j < dp + t
    · rw [pk_cpy_in h2.1 h2.2, pk_cpy_in h2.1 (by omega)]
    · rw [pk_cpy_out (by omega), pk_cpy_out (by omega)]
theorem ml_pred {n : Nat} (h : 0 < n) : nI n - nI 1 = nI (n - 1) := pk_sub h
theorem ml_fst_le (P : Nat → Bool) : ∀ n, mo_fst P n ≤ n
  | 0 => Nat.le_refl 0
  | n + 1 => by
    unfold mo_fst
    have ih := ml_fst_le P n
    split
    · omega
    · split <;> omega
theorem ml_fst_no (P : Nat → Bool) : ∀ n k, k < mo_fst P n → P k = false
  | 0, k, h => absurd h (Nat.not_lt_zero k)
  | n + 1, k, h => by
    have ih := ml_fst_no P n
    have hl := ml_fst_le P n
    unfold mo_fst at h
    split at h
    · exact ih k h
    · split at h
      · exact ih k (by omega)
      · next h1 h2 =>
        by_cases hk : k = n
        · subst hk; simpa using h2
        · exact ih k (by omega)
theorem ml_fst_yes (P : Nat → Bool) : ∀ n, mo_fst P n < n → P (mo_fst P n) = true
  | 0, h => absurd h (Nat.not_lt_zero _)
  | n + 1, h => by
    have ih := ml_fst_yes P n
    unfold mo_fst at h ⊢
    split at h
    · next h1 => rw [if_pos h1]; exact ih h1
    · next h1 =>
      rw [if_neg h1]
      split at h
      · next h2 => rw [if_pos h2]; exact h2
      · omega
/-- it is found by being the first -/
theorem ml_fst_is {P : Nat → Bool} {n k : Nat} (hk : k < n) (hy : P k = true) (hno : ∀ j, j < k → P j = false) : mo_fst P n = k := by
  have h1 : ¬ k < mo_fst P n := fun h => by rw [ml_fst_no P n k h] at hy; cases hy
  have h2 : ¬ mo_fst P n < k := fun h => by
    have := ml_fst_yes P n (by omega)
    rw [hno _ h] at this
    cases this
  omega
theorem ml_fst_none {P : Nat → Bool} {n : Nat} (hno : ∀ j, j < n → P j = false) : mo_fst P n = n := by
  have h1 := ml_fst_le P n
  by_cases h : mo_fst P n < n
  · have := ml_fst_yes P n h
    rw [hno _ h] at this
    cases this
  · omega
