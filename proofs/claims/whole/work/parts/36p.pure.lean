theorem ml_goTo_2 {W : Nat → Int32} {c p : Nat} (h : iv c W) (hp : p < 5) : mo_goTo W p 2 = nI p := by
  unfold mo_goTo
  rw [ml_heard_out (iv_goMid h hp) (by omega) (by omega) (by omega) (by omega) (by omega), pk_us]
theorem ml_goTo_4 {W : Nat → Int32} {c p : Nat} (h : iv c W) (hp : p < 5) : mo_goTo W p 4 = W 2 := by
  unfold mo_goTo
  rw [ml_heard_out (iv_goMid h hp) (by omega) (by omega) (by omega) (by omega) (by omega), pk_un (by omega), pk_us]
theorem ml_leave_s {W : Nat → Int32} {p cu : Nat} (h : W 2 = nI cu) (h2 : nI cu = nI p) : mo_leave W p = W := by unfold mo_leave; rw [if_pos (h.trans h2)]
theorem ml_leave_c {W : Nat → Int32} {p cu : Nat} (h : W 2 = nI cu) (h2 : ¬ nI cu = nI p) : mo_leave W p = mo_close W p := by unfold mo_leave; rw [if_neg (by rw [h]; exact h2)]
