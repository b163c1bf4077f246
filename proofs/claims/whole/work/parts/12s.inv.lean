theorem ml_rmh_q {W : Nat → Int32} {k n : Nat} (hn : W 12 = nI n) (h0 : 0 < n) : mo_rm W 471 3 12 k 12 = nI (n - 1) := by
  unfold mo_rm
  rw [pk_us, hn, ml_pred h0]
theorem ml_rmh_out {W : Nat → Int32} {k n j : Nat} (hn : W 12 = nI n) (h24 : n ≤ 24) (hk : k < n) (hj : j < 471 + 3 * k ∨ 471 + 3 * (n - 1) ≤ j) (hq : j ≠ 12) : mo_rm W 471 3 12 k j = W j := by
  unfold mo_rm
  rw [pk_un hq, hn, ml_n (by omega), pk_cpy_out (by omega)]
theorem ml_rmh_row {W : Nat → Int32} {k n i j : Nat} (hn : W 12 = nI n) (h24 : n ≤ 24) (hk : k < n) (hi : i < n - 1) (hj : j < 3) : mo_rm W 471 3 12 k (471 + 3 * i + j) = W (471 + 3 * (if i < k then i else i + 1) + j) := by
  by_cases h : i < k
  · rw [if_pos h, ml_rmh_out hn h24 hk (by omega) (by omega)]
  · rw [if_neg h]
    unfold mo_rm
    rw [pk_un (by omega), hn, ml_n (by omega), pk_cpy_in (by omega) (by omega)]
    congr 1
    omega
theorem ml_rmh_row0 {W : Nat → Int32} {k n i : Nat} (hn : W 12 = nI n) (h24 : n ≤ 24) (hk : k < n) (hi : i < n - 1) : mo_rm W 471 3 12 k (471 + 3 * i) = W (471 + 3 * (if i < k then i else i + 1)) := ml_rmh_row (j := 0) hn h24 hk hi (by omega)
theorem ml_rma_q {W : Nat → Int32} {k n : Nat} (hn : W 13 = nI n) (h0 : 0 < n) : mo_rm W 507 5 13 k 13 = nI (n - 1) := by
  unfold mo_rm
  rw [pk_us, hn, ml_pred h0]
theorem ml_rma_out {W : Nat → Int32} {k n j : Nat} (hn : W 13 = nI n) (h24 : n ≤ 24) (hk : k < n) (hj : j < 507 + 5 * k ∨ 507 + 5 * (n - 1) ≤ j) (hq : j ≠ 13) : mo_rm W 507 5 13 k j = W j := by
  unfold mo_rm
  rw [pk_un hq, hn, ml_n (by omega), pk_cpy_out (by omega)]
theorem ml_rma_row {W : Nat → Int32} {k n i j : Nat} (hn : W 13 = nI n) (h24 : n ≤ 24) (hk : k < n) (hi : i < n - 1) (hj : j < 5) : mo_rm W 507 5 13 k (507 + 5 * i + j) = W (507 + 5 * (if i < k then i else i + 1) + j) := by
  by_cases h : i < k
  · rw [if_pos h, ml_rma_out hn h24 hk (by omega) (by omega)]
  · rw [if_neg h]
    unfold mo_rm
    rw [pk_un (by omega), hn, ml_n (by omega), pk_cpy_in (by omega) (by omega)]
    congr 1
    omega
theorem ml_rma_row0 {W : Nat → Int32} {k n i : Nat} (hn : W 13 = nI n) (h24 : n ≤ 24) (hk : k < n) (hi : i < n - 1) : mo_rm W 507 5 13 k (507 + 5 * i) = W (507 + 5 * (if i < k then i else i + 1)) := ml_rma_row (j := 0) hn h24 hk hi (by omega)
theorem ml_rmr_q {W : Nat → Int32} {k n : Nat} (hn : W 11 = nI n) (h0 : 0 < n) : mo_rm W 327 6 11 k 11 = nI (n - 1) := by
  unfold mo_rm
  rw [pk_us, hn, ml_pred h0]
theorem ml_rmr_out {W : Nat → Int32} {k n j : Nat} (hn : W 11 = nI n) (h24 : n ≤ 24) (hk : k < n) (hj : j < 327 + 6 * k ∨ 327 + 6 * (n - 1) ≤ j) (hq : j ≠ 11) : mo_rm W 327 6 11 k j = W j := by
  unfold mo_rm
  rw [pk_un hq, hn, ml_n (by omega), pk_cpy_out (by omega)]
theorem ml_rmr_row {W : Nat → Int32} {k n i j : Nat} (hn : W 11 = nI n) (h24 : n ≤ 24) (hk : k < n) (hi : i < n - 1) (hj : j < 6) : mo_rm W 327 6 11 k (327 + 6 * i + j) = W (327 + 6 * (if i < k then i else i + 1) + j) := by
  by_cases h : i < k
  · rw [if_pos h, ml_rmr_out hn h24 hk (by omega) (by omega)]
  · rw [if_neg h]
    unfold mo_rm
    rw [pk_un (by omega), hn, ml_n (by omega), pk_cpy_in (by omega) (by omega)]
    congr 1
    omega
theorem ml_rmr_row0 {W : Nat → Int32} {k n i : Nat} (hn : W 11 = nI n) (h24 : n ≤ 24) (hk : k < n) (hi : i < n - 1) : mo_rm W 327 6 11 k (327 + 6 * i) = W (327 + 6 * (if i < k then i else i + 1)) := ml_rmr_row (j := 0) hn h24 hk hi (by omega)
theorem ml_shift {k n i : Nat} (hi : i < n - 1) : (if i < k then i else i + 1) < n := by split <;> omega
theorem iv_rmh {W : Nat → Int32} {c k : Nat} (h : iv c W) (hk : k < mo_n (W 12)) : iv c (mo_rm W 471 3 12 k) := by
  obtain ⟨h1, h2, h3, h4, h5, h6, h7, h8, h9⟩ := h
  have hn := ml_i12 h1
  have hl := ml_n12 h1
  have o : ∀ j, (j < 471 ∨ 507 ≤ j) → j ≠ 12 → mo_rm W 471 3 12 k j = W j := fun j a b => ml_rmh_out hn (by omega) hk (by omega) b
  have hq := ml_rmh_q (k := k) hn (by omega)
  refine ⟨⟨?_, ⟨_, by omega, hq⟩, ?_⟩, h2.cg (fun j a b => o j (by omega) (by omega)), h3.cg (o 11 (by omega) (by omega)) (ml_n24 h1) (fun j a b => o j (by omega) (by omega)), ?_, h5.cg (o 13 (by omega) (by omega)) (ml_n6 h1) (fun j a b => o j (by omega) (by omega)), h6.cg (fun j a b => o j (by omega) (by omega)), h7.cg (o 1 (by omega) (by omega)) (fun j a b => o j (by omega) (by omega)), h8.cg (fun j a => o j (by omega) (by omega)), h9.cg h8 (fun j a => o j (by omega) (by omega))⟩
  · rw [o 11 (by omega) (by omega)]; exact h1.1
  · rw [o 13 (by omega) (by omega)]; exact h1.2.2
  · intro i hi
    rw [hq, ml_n (by omega)] at hi
    rw [ml_rmh_row0 hn (by omega) hk hi, ml_rmh_row hn (by omega) hk hi (by omega), ml_rmh_row hn (by omega) hk hi (by omega)]
    exact h4 _ (ml_shift hi)
theorem iv_rma {W : Nat → Int32} {c k : Nat} (h : iv c W) (hk : k < mo_n (W 13)) : iv c (mo_rm W 507 5 13 k) := by
  obtain ⟨h1, h2, h3, h4, h5, h6, h7, h8, h9⟩ := h
  have hn := ml_i13 h1
  have hl := ml_n6 h1
  have o : ∀ j, (j < 507 ∨ 537 ≤ j) → j ≠ 13 → mo_rm W 507 5 13 k j = W j := fun j a b => ml_rma_out hn (by omega) hk (by omega) b
  have hq := ml_rma_q (k := k) hn (by omega)
  refine ⟨⟨?_, ?_, ⟨_, by omega, hq⟩⟩, h2.cg (fun j a b => o j (by omega) (by omega)), h3.cg (o 11 (by omega) (by omega)) (ml_n24 h1) (fun j a b => o j (by omega) (by omega)), h4.cg (o 12 (by omega) (by omega)) (ml_n12 h1) (fun j a b => o j (by omega) (by omega)), ?_, h6.cg (fun j a b => o j (by omega) (by omega)), h7.cg (o 1 (by omega) (by omega)) (fun j a b => o j (by omega) (by omega)), h8.cg (fun j a => o j (by omega) (by omega)), h9.cg h8 (fun j a => o j (by omega) (by omega))⟩
  · rw [o 11 (by omega) (by omega)]; exact h1.1
  · rw [o 12 (by omega) (by omega)]; exact h1.2.1
  · intro i hi
    rw [hq, ml_n (by omega)] at hi
    rw [ml_rma_row0 hn (by omega) hk hi, ml_rma_row hn (by omega) hk hi (by omega), ml_rma_row hn (by omega) hk hi (by omega)]
    exact h5 _ (ml_shift hi)
theorem iv_rmr {W : Nat → Int32} {c k : Nat} (h : iv c W) (hk : k < mo_n (W 11)) : iv c (mo_rm W 327 6 11 k) := by
  obtain ⟨h1, h2, h3, h4, h5, h6, h7, h8, h9⟩ := h
  have hn := ml_i11 h1
  have hl := ml_n24 h1
  have o : ∀ j, (j < 327 ∨ 471 ≤ j) → j ≠ 11 → mo_rm W 327 6 11 k j = W j := fun j a b => ml_rmr_out hn (by omega) hk (by omega) b
  have hq := ml_rmr_q (k := k) hn (by omega)
  refine ⟨⟨⟨_, by omega, hq⟩, ?_, ?_⟩, h2.cg (fun j a b => o j (by omega) (by omega)), ?_, h4.cg (o 12 (by omega) (by omega)) (ml_n12 h1) (fun j a b => o j (by omega) (by omega)), h5.cg (o 13 (by omega) (by omega)) (ml_n6 h1) (fun j a b => o j (by omega) (by omega)), h6.cg (fun j a b => o j (by omega) (by omega)), h7.cg (o 1 (by omega) (by omega)) (fun j a b => o j (by omega) (by omega)), h8.cg (fun j a => o j (by omega) (by omega)), h9.cg h8 (fun j a => o j (by omega) (by omega))⟩
  · rw [o 12 (by omega) (by omega)]; exact h1.2.1
  · rw [o 13 (by omega) (by omega)]; exact h1.2.2
  · intro i hi
    rw [hq, ml_n (by omega)] at hi
    rw [ml_rmr_row0 hn (by omega) hk hi, ml_rmr_row hn (by omega) hk hi (by omega), ml_rmr_row hn (by omega) hk hi (by omega), ml_rmr_row hn (by omega) hk hi (by omega), ml_rmr_row hn (by omega) hk hi (by omega)]
    exact h3 _ (ml_shift hi)
/-- a held one comes behind the others -/
theorem iv_addh {W : Nat → Int32} {c p k n : Nat} {v : Int32} (h : iv c W) (hn : W 12 = nI n) (hn2 : n < 12) (hp : p < 5) (hk : k < 6) (hv : iv_v 1 k v) : iv c (upd (mo_put W (471 + 3 * n) 3 (mo_r3 (nI p) (nI k) v)) 12 (nI (n + 1))) := by
  obtain ⟨h1, h2, h3, h4, h5, h6, h7, h8, h9⟩ := h
  have o : ∀ j, (j < 471 ∨ 507 ≤ j) → j ≠ 12 → upd (mo_put W (471 + 3 * n) 3 (mo_r3 (nI p) (nI k) v)) 12 (nI (n + 1)) j = W j := fun j a b => by rw [pk_un b, mo_put_out (by omega)]
  refine ⟨⟨?_, ⟨n + 1, by omega, pk_us⟩, ?_⟩, h2.cg (fun j a b => o j (by omega) (by omega)), h3.cg (o 11 (by omega) (by omega)) (ml_n24 h1) (fun j a b => o j (by omega) (by omega)), ?_, h5.cg (o 13 (by omega) (by omega)) (ml_n6 h1) (fun j a b => o j (by omega) (by omega)), h6.cg (fun j a b => o j (by omega) (by omega)), h7.cg (o 1 (by omega) (by omega)) (fun j a b => o j (by omega) (by omega)), h8.cg (fun j a => o j (by omega) (by omega)), h9.cg h8 (fun j a => o j (by omega) (by omega))⟩
  · rw [o 11 (by omega) (by omega)]; exact h1.1
  · rw [o 13 (by omega) (by omega)]; exact h1.2.2
  · intro i hi
    rw [pk_us, ml_n (by omega)] at hi
    rw [pk_un (by omega), pk_un (by omega), pk_un (by omega)]
    by_cases hin : i = n
    · subst hin
      rw [mo_put_in (by omega) (by omega), mo_put_in (by omega) (by omega), mo_put_in (by omega) (by omega)]
      simp only [Nat.sub_self, show 471 + 3 * i + 1 - (471 + 3 * i) = 1 by omega, show 471 + 3 * i + 2 - (471 + 3 * i) = 2 by omega, mo_r3]
      exact ⟨p, k, hp, hk, rfl, rfl, hv⟩
    · rw [mo_put_out (by omega), mo_put_out (by omega), mo_put_out (by omega)]
      exact h4 i (by rw [hn, ml_n (by omega)]; omega)
theorem iv_hold {W : Nat → Int32} {c p k : Nat} {v : Int32} (h : iv c W) (hp : p < 5) (hk : k < 6) (hv : iv_v 1 k v) : iv c (mo_hold W p k v) := by
  have hn := ml_i12 h.1
  have hl := ml_n12 h.1
  unfold mo_hold
  by_cases hf : W 12 = nI 12
  · have h12 : mo_n (W 12) = 12 := by rw [hf]; rfl
    have h2 := iv_rmh (k := 0) h (by omega)
    have hq := ml_rmh_q (k := 0) hn (by omega)
    rw [h12] at hq
    rw [if_pos hf]
    dsimp only
    rw [hq, ml_n (by omega), nI_add]
    exact iv_addh h2 hq (by omega) hp hk hv
  · have h12 : mo_n (W 12) < 12 := by
      by_cases hq : mo_n (W 12) = 12
      · exact absurd (by rw [hn, hq]) hf
      · omega
    rw [if_neg hf]
    have := iv_addh h hn h12 hp hk hv
    rw [← nI_add, ← hn] at this
    exact this
theorem iv_goes {W : Nat → Int32} {c e p k : Nat} {v : Int32} (h : iv (c + 1) W) (he : e < 2) (hp : p < 5) (hk : k < 6) (hv : iv_v e k v) : iv c (mo_goes W e p k v) := by
  unfold mo_goes
  split
  · exact iv_send h he hp hk hv
  · next hh =>
    have h1 : e = 1 := by
      by_cases h0 : e = 0
      · exact absurd (Or.inl h0) hh
      · omega
    subst h1
    exact iv_hold (h.less (by omega)) hp hk hv
theorem ml_fh_lt {W : Nat → Int32} {p : Nat} : mo_fh W p ≤ mo_n (W 12) := ml_fst_le _ _
theorem iv_lo {p : Nat} (hp : p < 5) : ∀ (n c : Nat) (W : Nat → Int32), iv (c + n) W → iv c (mo_lo p n W)
  | 0, c, W, h => h
  | n + 1, c, W, h => by
    unfold mo_lo
    split
    · next h1 =>
      split
      · refine iv_lo hp n c _ ?_
        obtain ⟨q, kd, -, hk, -, hkd, hv⟩ := h.2.2.2.1 _ h1
        rw [hkd, ml_n (by omega)]
        exact iv_send (c := c + n) (iv_rmh h h1) (by omega) hp hk hv
      · exact h.less (by omega)
    · exact h.less (by omega)
theorem iv_letOut {W : Nat → Int32} {c p : Nat} (h : iv (c + 12) W) (hp : p < 5) : iv c (mo_letOut W p) := by
  have hl := ml_n12 h.1
  exact iv_lo hp _ c W (h.less (by omega))
theorem iv_adda {W : Nat → Int32} {c e p n : Nat} {v t : Int32} (h : iv c W) (hn : W 13 = nI n) (hn2 : n < 6) (he : e < 2) (hp : p < 5) (z : Nat) (hz : z = 16 + e) (x : Int32) : iv c (upd (mo_put (upd W z x) (507 + 5 * n) 5 (mo_r5 (nI e) v (nI p) t (nI 0))) 13 (nI (n + 1))) := by
  obtain ⟨h1, h2, h3, h4, h5, h6, h7, h8, h9⟩ := h
  have o : ∀ j, (j < 507 ∨ 537 ≤ j) → j ≠ 13 → j ≠ z → upd (mo_put (upd W z x) (507 + 5 * n) 5 (mo_r5 (nI e) v (nI p) t (nI 0))) 13 (nI (n + 1)) j = W j := fun j a b d => by rw [pk_un b, mo_put_out (by omega), pk_un d]
  refine ⟨⟨?_, ?_, ⟨n + 1, by omega, pk_us⟩⟩, h2.cg (fun j a b => o j (by omega) (by omega) (by omega)), h3.cg (o 11 (by omega) (by omega) (by omega)) (ml_n24 h1) (fun j a b => o j (by omega) (by omega) (by omega)), h4.cg (o 12 (by omega) (by omega) (by omega)) (ml_n12 h1) (fun j a b => o j (by omega) (by omega) (by omega)), ?_, h6.cg (fun j a b => o j (by omega) (by omega) (by omega)), h7.cg (o 1 (by omega) (by omega) (by omega)) (fun j a b => o j (by omega) (by omega) (by omega)), h8.cg (fun j a => o j (by omega) (by omega) (by omega)), h9.cg h8 (fun j a => o j (by omega) (by omega) (by omega))⟩
  · rw [o 11 (by omega) (by omega) (by omega)]; exact h1.1
  · rw [o 12 (by omega) (by omega) (by omega)]; exact h1.2.1
  · intro i hi
    rw [pk_us, ml_n (by omega)] at hi
    rw [pk_un (by omega), pk_un (by omega), pk_un (by omega)]
    by_cases hin : i = n
    · subst hin
      rw [mo_put_in (by omega) (by omega), mo_put_in (by omega) (by omega), mo_put_in (by omega) (by omega)]
      simp only [Nat.sub_self, show 507 + 5 * i + 2 - (507 + 5 * i) = 2 by omega, show 507 + 5 * i + 4 - (507 + 5 * i) = 4 by omega, mo_r5]
      exact ⟨e, p, 0, he, hp, by omega, rfl, rfl, rfl⟩
    · rw [mo_put_out (by omega), mo_put_out (by omega), mo_put_out (by omega), pk_un (by omega), pk_un (by omega), pk_un (by omega)]
      exact h5 i (by rw [hn, ml_n (by omega)]; omega)
theorem iv_ask {W : Nat → Int32} {c e p : Nat} (h : iv c W) (he : e < 2) (hp : p < 5) : iv c (mo_ask W e p) := by
  have hn := ml_i13 h.1
  have hl := ml_n6 h.1
  unfold mo_ask
  by_cases hf : W 13 = nI 6
  · have h6 : mo_n (W 13) = 6 := by rw [hf]; rfl
    have h2 := iv_rma (k := 0) h (by omega)
    have hq := ml_rma_q (k := 0) hn (by omega)
    rw [h6] at hq
    rw [if_pos hf]
    dsimp only
    rw [hq, ml_n (by omega), nI_add]
    exact iv_adda h2 hq (by omega) he hp _ rfl _
  · have h6 : mo_n (W 13) < 6 := by
      by_cases hq : mo_n (W 13) = 6
      · exact absurd (by rw [hn, hq]) hf
      · omega
    rw [if_neg hf]
    have := iv_adda (v := W (16 + e)) (t := W 0) h hn h6 he hp _ rfl (W (16 + e) + nI 1)
    rw [← nI_add, ← hn] at this
    exact this
theorem iv_v1 (e k : Nat) (x : Int32) (h0 : k ≠ 0) (h3 : k ≠ 3) (h5 : k ≠ 5) : iv_v e k x := ⟨fun h => absurd h h0, fun h => absurd h h3, fun h => absurd h h5⟩
theorem iv_challenge {W : Nat → Int32} {c e p : Nat} (h : iv (c + 1) W) (he : e < 2) (hp : p < 5) : iv c (mo_challenge W e p) := iv_goes (iv_ask h he hp) he hp (by omega) (iv_v1 _ _ _ (by omega) (by omega) (by omega))
theorem iv_once {W : Nat → Int32} {c p : Nat} (h : iv (c + 1) W) (hp : p < 5) : iv c (mo_once W p) := by
  unfold mo_once
  split
  · exact iv_challenge h (by omega) hp
  · exact h.less (by omega)
theorem ml_row_le (W : Nat → Int32) (e : Nat) : mo_row W e ≤ 100 := ml_fst_le _ _
theorem iv_heard {W : Nat → Int32} {c e : Nat} (h : iv (c + 1) W) (he : e < 2) : iv c (mo_heard W e) :=
  iv_goes h he (ml_cur h.2.2.2.2.2.2.2.1 he).1 (by omega) ⟨fun q => absurd q (by omega), fun q => absurd q (by omega), fun _ => ⟨_, ml_row_le W e, rfl⟩⟩
