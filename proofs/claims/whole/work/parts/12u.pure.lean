/-! fewer locals, in any order -/
theorem mw_lvs {p : Program} {l : Launch} {e : Env} {R : Room} {s : State} {m : MethodId} {args : Array Value} {below : List Frame} {meth : Method} {c : Code} {A : Nat → Prop} {Q : State → Prop} {ce sl pc nL : Nat} {st : List Value} {I : Heap → Prop} {lv lv' : List (Nat × Value)} (ks : List Nat) (h : lv_pick lv ks = lv') (kk : mw_G p l e R s m args below meth c A nL Q I ce sl pc lv' st) : mw_G p l e R s m args below meth c A nL Q I ce sl pc lv st := fun H locs ls hI hS hl => kk H locs ls hI hS (lv_sub hl ks h)
/-- a place that was found, or NONE -/
def mo_ix (k n : Nat) : Int32 := if k < n then nI k else -1
theorem ml_may_t1 {W : Nat → Int32} {p k : Nat} (h : W (32 + p) = nI 1) : mo_may W p k = true := by simp [mo_may, h]
theorem ml_may_t2 {W : Nat → Int32} {p k : Nat} (h : ¬ nI 3 * W (37 + p) < W (42 + p) + mw_sz k) : mo_may W p k = true := by simp [mo_may, Int32.not_lt.mp h]
theorem ml_may_f {W : Nat → Int32} {p k : Nat} (h : ¬ W (32 + p) = nI 1) (h2 : nI 3 * W (37 + p) < W (42 + p) + mw_sz k) : mo_may W p k = false := by simp [mo_may, h, Int32.not_le.mpr h2]
theorem ml_hold_add {W : Nat → Int32} {p k n : Nat} {v : Int32} (hn : W 12 = nI n) (hn2 : n ≤ 12) (h : ¬ nI n = nI 12) : mo_hold W p k v = upd (upd (upd (upd W (471 + 3 * n) (nI p)) (471 + 3 * n + 1) (nI k)) (471 + 3 * n + 2) v) 12 (nI n + nI 1) := by
  unfold mo_hold
  rw [hn, if_neg h]
  dsimp only
  rw [hn, mo_put3, ml_n (by omega)]
theorem ml_hold_full {W V : Nat → Int32} {p k : Nat} {v : Int32} (hn : W 12 = nI 12) (hV : V = mo_rm W 471 3 12 0) : mo_hold W p k v = upd (upd (upd (upd V (471 + 3 * 11) (nI p)) (471 + 3 * 11 + 1) (nI k)) (471 + 3 * 11 + 2) v) 12 (nI 11 + nI 1) := by
  have hq : V 12 = nI 11 := by rw [hV]; exact ml_rmh_q hn (by omega)
  unfold mo_hold
  rw [if_pos hn, ← hV]
  dsimp only
  rw [hq, mo_put3, ml_n (by omega)]
theorem ml_goes_send0 {W : Nat → Int32} {p k : Nat} {v : Int32} : mo_goes W 0 p k v = mo_send W 0 p k v := by unfold mo_goes; rw [if_pos (Or.inl rfl)]
theorem ml_goes_send {W : Nat → Int32} {e p k : Nat} {v : Int32} (h : mo_may W p k = true) : mo_goes W e p k v = mo_send W e p k v := by unfold mo_goes; rw [if_pos (Or.inr h)]
theorem ml_goes_hold {W : Nat → Int32} {p k : Nat} {v : Int32} (h : mo_may W p k = false) : mo_goes W 1 p k v = mo_hold W p k v := by unfold mo_goes; rw [if_neg (by rw [h]; decide)]
theorem ml_fh_is {W : Nat → Int32} {p n t : Nat} (hn : W 12 = nI n) (hn2 : n ≤ 12) (ht : t < n) (hy : W (471 + 3 * t) = nI p) (hno : ∀ j, j < t → ¬ W (471 + 3 * j) = nI p) : mo_fh W p = t := by
  unfold mo_fh
  rw [hn, ml_n (by omega)]
  exact ml_fst_is ht (by simp [hy]) (fun j hj => by simp [hno j hj])
theorem ml_fh_none {W : Nat → Int32} {p n : Nat} (hn : W 12 = nI n) (hn2 : n ≤ 12) (hno : ∀ j, j < n → ¬ W (471 + 3 * j) = nI p) : mo_fh W p = n := by
  unfold mo_fh
  rw [hn, ml_n (by omega)]
  exact ml_fst_none (fun j hj => by simp [hno j hj])
theorem ml_fa_is {W : Nat → Int32} {e wh n t : Nat} {v : Int32} (hn : W 13 = nI n) (hn2 : n ≤ 6) (ht : t < n) (hy : W (507 + 5 * t) = nI e) (hy2 : W (507 + 5 * t + wh) = v) (hno : ∀ j, j < t → ¬ (W (507 + 5 * j) = nI e ∧ W (507 + 5 * j + wh) = v)) : mo_fa W e wh v = t := by
  unfold mo_fa
  rw [hn, ml_n (by omega)]
  exact ml_fst_is ht (by simp [hy, hy2]) (fun j hj => by
    have := hno j hj
    simpa using this)
theorem ml_fa_none {W : Nat → Int32} {e wh n : Nat} {v : Int32} (hn : W 13 = nI n) (hn2 : n ≤ 6) (hno : ∀ j, j < n → ¬ (W (507 + 5 * j) = nI e ∧ W (507 + 5 * j + wh) = v)) : mo_fa W e wh v = n := by
  unfold mo_fa
  rw [hn, ml_n (by omega)]
  exact ml_fst_none (fun j hj => by
    have := hno j hj
    simpa using this)
theorem ml_succ {t : Nat} {Q : Nat → Prop} (h : ∀ j, j < t → Q j) (ht : Q t) : ∀ j, j < t + 1 → Q j := fun j hj => by
  rcases Nat.lt_or_ge j t with q | q
  · exact h j q
  · rw [show j = t by omega]; exact ht
theorem ml_send_12 {W : Nat → Int32} {e p k : Nat} {v : Int32} (hc : iv_c W) (he : e < 2) (hp : p < 5) : mo_send W e p k v 12 = W 12 := ml_send_out hc hp (by omega) (by omega) (by omega) (by omega)
