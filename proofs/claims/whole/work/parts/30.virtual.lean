/-! calls on the components, as the Ways see them -/
theorem yy_setA {W : Nat → Int32} {a k j : Nat} : decide (upd W (a + k) (nI 1) (a + j) = nI 1) = (decide (W (a + j) = nI 1) || decide (j = k)) := by
  by_cases q : j = k
  · subst q; rw [pk_us]; simp
  · rw [pk_un (by omega), decide_eq_false q, Bool.or_false]
theorem yy_setR {W : Nat → Int32} {a k j : Nat} {x : Int32} (hx : ¬ x = nI 1) : decide (upd W (a + k) x (a + j) = nI 1) = (decide (W (a + j) = nI 1) && !decide (j = k)) := by
  by_cases q : j = k
  · subst q; rw [pk_us, decide_eq_false hx]; simp
  · rw [pk_un (by omega), decide_eq_false q]; simp
theorem yy_ever {W : Nat → Int32} {k j : Nat} {x : Int32} (hx : ¬ x = 0) (he : ¬ W (87 + k) = 0) : (!decide (upd W (87 + k) x (87 + j) = 0)) = !decide (W (87 + j) = 0) := by
  by_cases q : j = k
  · subst q; rw [pk_us, decide_eq_false hx, decide_eq_false he]
  · rw [pk_un (by omega)]
theorem yy_everA {W : Nat → Int32} {k j : Nat} : (!decide (upd W (87 + k) (nI 2) (87 + j) = 0)) = ((!decide (W (87 + j) = 0)) || decide (j = k)) := by
  by_cases q : j = k
  · subst q; rw [pk_us, decide_eq_false (show ¬ nI 2 = 0 by decide)]; simp
  · rw [pk_un (by omega), decide_eq_false q, Bool.or_false]
theorem yy_sp {W : Nat → Int32} {k j : Nat} (he : W (87 + k) = 0) : decide (upd W (87 + k) (nI 2) (87 + j) = nI 1) = decide (W (87 + j) = nI 1) := by
  by_cases q : j = k
  · subst q; rw [pk_us, he]; decide
  · rw [pk_un (by omega)]
section VC
variable {l : Launch} {Γ : mw_C} {b : Nat} {W : Nat → Int32} {sd : Int32} {H : Heap}
theorem yy_cnt {x : Int32} {n : Nat} (h : x = nI n) (hn : n ≤ 100) : mo_n (x + nI 1) = n + 1 := by rw [h, nI_add, ml_n (by omega)]
theorem yy_cntM {x : Int32} {n : Nat} (h : x = nI n) (h0 : 0 < n) (hn : n ≤ 100) : mo_n (x - nI 1) = n - 1 := by rw [h, ml_pred h0, ml_n (by omega)]
theorem y1_size  (hb : Γ.2.2.2 ≤ b) (h : ws_I Γ b W sd H)  : mw_Cr l Γ mX2_size 1 0 0 (tb_A (b + 1)) [.ref (b + 1)] H (some (.int (nI (mo_n (W 11))))) (ws_I Γ b W sd) :=
  (tk_size (by omega) h.2.1.2 h.2.1.1 (by omega) (by omega)).wide (fun H1 hJ _ hf => h.rd1 (fun q a b => hf q a (by unfold tb_A; omega)) ⟨h.2.1.1, hJ⟩)
theorem y1_isFull  (hb : Γ.2.2.2 ≤ b) (h : ws_I Γ b W sd H)  : mw_Cr l Γ mX2_isFull 1 0 0 (tb_A (b + 1)) [.ref (b + 1)] H (some (.int (mo_b (decide (24 ≤ mo_n (W 11)))))) (ws_I Γ b W sd) :=
  (tk_isFull (by omega) h.2.1.2 h.2.1.1 (by omega) (by omega)).wide (fun H1 hJ _ hf => h.rd1 (fun q a b => hf q a (by unfold tb_A; omega)) ⟨h.2.1.1, hJ⟩)
theorem y1_hasRow {x : Int32} (hb : Γ.2.2.2 ≤ b) (h : ws_I Γ b W sd H)  : mw_Cr l Γ mX2_hasRow 1 0 0 (tb_A (b + 1)) [.ref (b + 1), .int x] H (some (.int (mo_b (mo_bl x (mo_n (W 11)))))) (ws_I Γ b W sd) :=
  (tk_hasRow (by omega) h.2.1.2 h.2.1.1 (by omega) (by omega)).wide (fun H1 hJ _ hf => h.rd1 (fun q a b => hf q a (by unfold tb_A; omega)) ⟨h.2.1.1, hJ⟩)
theorem y1_hasCol {x : Int32} (hb : Γ.2.2.2 ≤ b) (h : ws_I Γ b W sd H)  : mw_Cr l Γ mX2_hasColumn 1 0 0 (tb_A (b + 1)) [.ref (b + 1), .int x] H (some (.int (mo_b (mo_bl x 6)))) (ws_I Γ b W sd) :=
  (tk_hasCol (by omega) h.2.1.2 h.2.1.1 (by omega) (by omega)).wide (fun H1 hJ _ hf => h.rd1 (fun q a b => hf q a (by unfold tb_A; omega)) ⟨h.2.1.1, hJ⟩)
theorem y1_at {k j : Nat} (hb : Γ.2.2.2 ≤ b) (h : ws_I Γ b W sd H) (hk : k < mo_n (W 11)) (hj : j < 6) : mw_Cr l Γ mX2_at 1 0 0 (tb_A (b + 1)) [.ref (b + 1), .int (nI k), .int (nI j)] H (some (.int (W (327 + 6 * k + j)))) (ws_I Γ b W sd) :=
  (tk_at (by omega) h.2.1.2 h.2.1.1 (by omega) (by omega) hk hj).wide (fun H1 hJ _ hf => h.rd1 (fun q a b => hf q a (by unfold tb_A; omega)) ⟨h.2.1.1, hJ⟩)
theorem y1_atN {y : Int32} (hb : Γ.2.2.2 ≤ b) (h : ws_I Γ b W sd H)  : mw_Cr l Γ mX2_at 1 0 0 (tb_A (b + 1)) [.ref (b + 1), .int (-1), .int y] H (some (.int (-1))) (ws_I Γ b W sd) :=
  (tk_atN (by omega) h.2.1.2 h.2.1.1 (by omega) (by omega)).wide (fun H1 hJ _ hf => h.rd1 (fun q a b => hf q a (by unfold tb_A; omega)) ⟨h.2.1.1, hJ⟩)
theorem y1_dropN  (hb : Γ.2.2.2 ≤ b) (h : ws_I Γ b W sd H)  : mw_Cr l Γ mX2_drop 1 0 0 (tb_A (b + 1)) [.ref (b + 1), .int (-1)] H none (ws_I Γ b W sd) :=
  (tk_dropN (by omega) h.2.1.2 h.2.1.1 (by omega) (by omega)).wide (fun H1 hJ _ hf => h.rd1 (fun q a b => hf q a (by unfold tb_A; omega)) ⟨h.2.1.1, hJ⟩)
theorem y1_add {a0 a1 a2 a3 a4 a5 : Int32} (hb : Γ.2.2.2 ≤ b) (h : ws_I Γ b W sd H) (hn : W 11 = nI (mo_n (W 11))) (hlt : mo_n (W 11) < 24) : mw_Cr l Γ mX2_add 1 0 0 (tb_A (b + 1)) [.ref (b + 1), .int a0, .int a1, .int a2, .int a3, .int a4, .int a5] H none (ws_I Γ b (upd (mo_put W (327 + 6 * mo_n (W 11)) 6 (mo_r6 a0 a1 a2 a3 a4 a5)) 11 (W 11 + nI 1)) sd) := by
  obtain ⟨W2, hW2⟩ : ∃ W2, W2 = upd (mo_put W (327 + 6 * mo_n (W 11)) 6 (mo_r6 a0 a1 a2 a3 a4 a5)) 11 (W 11 + nI 1) := ⟨_, rfl⟩
  rw [← hW2]
  have hc : W2 11 = W 11 + nI 1 := by rw [hW2, pk_us]
  have hc2 : mo_n (W2 11) = mo_n (W 11) + 1 := by rw [hc]; exact yy_cnt hn (by omega)
  have hout : ∀ j, ¬ (j = 11 ∨ (327 ≤ j ∧ j < 471)) → W2 j = W j := fun j hj => by rw [hW2, pk_un (by omega), mo_put_out (by omega)]
  refine (tk_add (g' := fun k j => W2 (327 + 6 * k + j)) (by omega) h.2.1.2 h.2.1.1 (by omega) (by omega) hlt (fun j hj => ?_) (fun a ha c hc => ?_)).wide (fun H1 hJ _ hf => h.put1 hout (fun q a b => hf q a (by unfold tb_A; omega)) ⟨by rw [hc2]; omega, by rw [hc2]; exact hJ⟩)
  · show W2 _ = _
    rw [hW2, pk_un (by omega), mo_put_in (by omega) (by omega), Nat.add_sub_cancel_left]
  · show W2 _ = W _
    rw [hW2, pk_un (by omega), mo_put_out (by omega)]
theorem y1_drop {k : Nat} (hb : Γ.2.2.2 ≤ b) (h : ws_I Γ b W sd H) (hn : W 11 = nI (mo_n (W 11))) (hk : k < mo_n (W 11)) : mw_Cr l Γ mX2_drop 1 0 0 (tb_A (b + 1)) [.ref (b + 1), .int (nI k)] H none (ws_I Γ b (mo_rm W 327 6 11 k) sd) := by
  have hL : mo_n (W 11) ≤ 24 := h.2.1.1
  obtain ⟨W2, hW2⟩ : ∃ W2, W2 = mo_rm W 327 6 11 k := ⟨_, rfl⟩
  rw [← hW2]
  have hc : W2 11 = W 11 - nI 1 := by rw [hW2]; unfold mo_rm; rw [pk_us]
  have hc2 : mo_n (W2 11) = mo_n (W 11) - 1 := by rw [hc]; exact yy_cntM hn (by omega) (by omega)
  have hout : ∀ j, ¬ (j = 11 ∨ (327 ≤ j ∧ j < 471)) → W2 j = W j := fun j hj => by rw [hW2]; unfold mo_rm; rw [pk_un (by omega)]; unfold va_cpy; rw [if_neg (by omega)]
  refine (tk_drop (g' := fun k j => W2 (327 + 6 * k + j)) (by omega) h.2.1.2 h.2.1.1 (by omega) (by omega) hk (fun a ha c hc => ?_) (fun a ha ha2 c hc => ?_)).wide (fun H1 hJ _ hf => h.put1 hout (fun q a b => hf q a (by unfold tb_A; omega)) ⟨by rw [hc2]; omega, by rw [hc2]; exact hJ⟩)
  · show W2 _ = W _
    rw [hW2]; unfold mo_rm; rw [pk_un (by omega)]; unfold va_cpy; rw [if_neg (by omega)]
  · show W2 _ = W _
    rw [hW2]; unfold mo_rm; rw [pk_un (by omega)]; unfold va_cpy; rw [if_pos (by omega)]; congr 1; omega
theorem y2_size  (hb : Γ.2.2.2 ≤ b) (h : ws_I Γ b W sd H)  : mw_Cr l Γ mX2_size 1 0 0 (tb_A (b + 3)) [.ref (b + 3)] H (some (.int (nI (mo_n (W 12))))) (ws_I Γ b W sd) :=
  (tk_size (by omega) h.2.2.1.2 h.2.2.1.1 (by omega) (by omega)).wide (fun H1 hJ _ hf => h.rd2 (fun q a b => hf q a (by unfold tb_A; omega)) ⟨h.2.2.1.1, hJ⟩)
theorem y2_isFull  (hb : Γ.2.2.2 ≤ b) (h : ws_I Γ b W sd H)  : mw_Cr l Γ mX2_isFull 1 0 0 (tb_A (b + 3)) [.ref (b + 3)] H (some (.int (mo_b (decide (12 ≤ mo_n (W 12)))))) (ws_I Γ b W sd) :=
  (tk_isFull (by omega) h.2.2.1.2 h.2.2.1.1 (by omega) (by omega)).wide (fun H1 hJ _ hf => h.rd2 (fun q a b => hf q a (by unfold tb_A; omega)) ⟨h.2.2.1.1, hJ⟩)
theorem y2_hasRow {x : Int32} (hb : Γ.2.2.2 ≤ b) (h : ws_I Γ b W sd H)  : mw_Cr l Γ mX2_hasRow 1 0 0 (tb_A (b + 3)) [.ref (b + 3), .int x] H (some (.int (mo_b (mo_bl x (mo_n (W 12)))))) (ws_I Γ b W sd) :=
  (tk_hasRow (by omega) h.2.2.1.2 h.2.2.1.1 (by omega) (by omega)).wide (fun H1 hJ _ hf => h.rd2 (fun q a b => hf q a (by unfold tb_A; omega)) ⟨h.2.2.1.1, hJ⟩)
theorem y2_hasCol {x : Int32} (hb : Γ.2.2.2 ≤ b) (h : ws_I Γ b W sd H)  : mw_Cr l Γ mX2_hasColumn 1 0 0 (tb_A (b + 3)) [.ref (b + 3), .int x] H (some (.int (mo_b (mo_bl x 3)))) (ws_I Γ b W sd) :=
  (tk_hasCol (by omega) h.2.2.1.2 h.2.2.1.1 (by omega) (by omega)).wide (fun H1 hJ _ hf => h.rd2 (fun q a b => hf q a (by unfold tb_A; omega)) ⟨h.2.2.1.1, hJ⟩)
theorem y2_at {k j : Nat} (hb : Γ.2.2.2 ≤ b) (h : ws_I Γ b W sd H) (hk : k < mo_n (W 12)) (hj : j < 3) : mw_Cr l Γ mX2_at 1 0 0 (tb_A (b + 3)) [.ref (b + 3), .int (nI k), .int (nI j)] H (some (.int (W (471 + 3 * k + j)))) (ws_I Γ b W sd) :=
  (tk_at (by omega) h.2.2.1.2 h.2.2.1.1 (by omega) (by omega) hk hj).wide (fun H1 hJ _ hf => h.rd2 (fun q a b => hf q a (by unfold tb_A; omega)) ⟨h.2.2.1.1, hJ⟩)
theorem y2_atN {y : Int32} (hb : Γ.2.2.2 ≤ b) (h : ws_I Γ b W sd H)  : mw_Cr l Γ mX2_at 1 0 0 (tb_A (b + 3)) [.ref (b + 3), .int (-1), .int y] H (some (.int (-1))) (ws_I Γ b W sd) :=
  (tk_atN (by omega) h.2.2.1.2 h.2.2.1.1 (by omega) (by omega)).wide (fun H1 hJ _ hf => h.rd2 (fun q a b => hf q a (by unfold tb_A; omega)) ⟨h.2.2.1.1, hJ⟩)
theorem y2_dropN  (hb : Γ.2.2.2 ≤ b) (h : ws_I Γ b W sd H)  : mw_Cr l Γ mX2_drop 1 0 0 (tb_A (b + 3)) [.ref (b + 3), .int (-1)] H none (ws_I Γ b W sd) :=
  (tk_dropN (by omega) h.2.2.1.2 h.2.2.1.1 (by omega) (by omega)).wide (fun H1 hJ _ hf => h.rd2 (fun q a b => hf q a (by unfold tb_A; omega)) ⟨h.2.2.1.1, hJ⟩)
theorem y2_add {a0 a1 a2 : Int32} (hb : Γ.2.2.2 ≤ b) (h : ws_I Γ b W sd H) (hn : W 12 = nI (mo_n (W 12))) (hlt : mo_n (W 12) < 12) : mw_Cr l Γ mX2_add 1 0 0 (tb_A (b + 3)) [.ref (b + 3), .int a0, .int a1, .int a2, .int (nI 0), .int (nI 0), .int (nI 0)] H none (ws_I Γ b (upd (mo_put W (471 + 3 * mo_n (W 12)) 3 (mo_r3 a0 a1 a2)) 12 (W 12 + nI 1)) sd) := by
  obtain ⟨W2, hW2⟩ : ∃ W2, W2 = upd (mo_put W (471 + 3 * mo_n (W 12)) 3 (mo_r3 a0 a1 a2)) 12 (W 12 + nI 1) := ⟨_, rfl⟩
  rw [← hW2]
  have hc : W2 12 = W 12 + nI 1 := by rw [hW2, pk_us]
  have hc2 : mo_n (W2 12) = mo_n (W 12) + 1 := by rw [hc]; exact yy_cnt hn (by omega)
  have hout : ∀ j, ¬ (j = 12 ∨ (471 ≤ j ∧ j < 507)) → W2 j = W j := fun j hj => by rw [hW2, pk_un (by omega), mo_put_out (by omega)]
  refine (tk_add (g' := fun k j => W2 (471 + 3 * k + j)) (by omega) h.2.2.1.2 h.2.2.1.1 (by omega) (by omega) hlt (fun j hj => ?_) (fun a ha c hc => ?_)).wide (fun H1 hJ _ hf => h.put2 hout (fun q a b => hf q a (by unfold tb_A; omega)) ⟨by rw [hc2]; omega, by rw [hc2]; exact hJ⟩)
  · show W2 _ = _
    rw [hW2, pk_un (by omega), mo_put_in (by omega) (by omega), Nat.add_sub_cancel_left]
    rcases (show j = 0 ∨ j = 1 ∨ j = 2 by omega) with rfl | rfl | rfl <;> rfl
  · show W2 _ = W _
    rw [hW2, pk_un (by omega), mo_put_out (by omega)]
theorem y2_drop {k : Nat} (hb : Γ.2.2.2 ≤ b) (h : ws_I Γ b W sd H) (hn : W 12 = nI (mo_n (W 12))) (hk : k < mo_n (W 12)) : mw_Cr l Γ mX2_drop 1 0 0 (tb_A (b + 3)) [.ref (b + 3), .int (nI k)] H none (ws_I Γ b (mo_rm W 471 3 12 k) sd) := by
  have hL : mo_n (W 12) ≤ 12 := h.2.2.1.1
  obtain ⟨W2, hW2⟩ : ∃ W2, W2 = mo_rm W 471 3 12 k := ⟨_, rfl⟩
  rw [← hW2]
  have hc : W2 12 = W 12 - nI 1 := by rw [hW2]; unfold mo_rm; rw [pk_us]
  have hc2 : mo_n (W2 12) = mo_n (W 12) - 1 := by rw [hc]; exact yy_cntM hn (by omega) (by omega)
  have hout : ∀ j, ¬ (j = 12 ∨ (471 ≤ j ∧ j < 507)) → W2 j = W j := fun j hj => by rw [hW2]; unfold mo_rm; rw [pk_un (by omega)]; unfold va_cpy; rw [if_neg (by omega)]
  refine (tk_drop (g' := fun k j => W2 (471 + 3 * k + j)) (by omega) h.2.2.1.2 h.2.2.1.1 (by omega) (by omega) hk (fun a ha c hc => ?_) (fun a ha ha2 c hc => ?_)).wide (fun H1 hJ _ hf => h.put2 hout (fun q a b => hf q a (by unfold tb_A; omega)) ⟨by rw [hc2]; omega, by rw [hc2]; exact hJ⟩)
  · show W2 _ = W _
    rw [hW2]; unfold mo_rm; rw [pk_un (by omega)]; unfold va_cpy; rw [if_neg (by omega)]
  · show W2 _ = W _
    rw [hW2]; unfold mo_rm; rw [pk_un (by omega)]; unfold va_cpy; rw [if_pos (by omega)]; congr 1; omega
theorem y3_size  (hb : Γ.2.2.2 ≤ b) (h : ws_I Γ b W sd H)  : mw_Cr l Γ mX2_size 1 0 0 (tb_A (b + 5)) [.ref (b + 5)] H (some (.int (nI (mo_n (W 13))))) (ws_I Γ b W sd) :=
  (tk_size (by omega) h.2.2.2.1.2 h.2.2.2.1.1 (by omega) (by omega)).wide (fun H1 hJ _ hf => h.rd3 (fun q a b => hf q a (by unfold tb_A; omega)) ⟨h.2.2.2.1.1, hJ⟩)
theorem y3_isFull  (hb : Γ.2.2.2 ≤ b) (h : ws_I Γ b W sd H)  : mw_Cr l Γ mX2_isFull 1 0 0 (tb_A (b + 5)) [.ref (b + 5)] H (some (.int (mo_b (decide (6 ≤ mo_n (W 13)))))) (ws_I Γ b W sd) :=
  (tk_isFull (by omega) h.2.2.2.1.2 h.2.2.2.1.1 (by omega) (by omega)).wide (fun H1 hJ _ hf => h.rd3 (fun q a b => hf q a (by unfold tb_A; omega)) ⟨h.2.2.2.1.1, hJ⟩)
theorem y3_hasRow {x : Int32} (hb : Γ.2.2.2 ≤ b) (h : ws_I Γ b W sd H)  : mw_Cr l Γ mX2_hasRow 1 0 0 (tb_A (b + 5)) [.ref (b + 5), .int x] H (some (.int (mo_b (mo_bl x (mo_n (W 13)))))) (ws_I Γ b W sd) :=
  (tk_hasRow (by omega) h.2.2.2.1.2 h.2.2.2.1.1 (by omega) (by omega)).wide (fun H1 hJ _ hf => h.rd3 (fun q a b => hf q a (by unfold tb_A; omega)) ⟨h.2.2.2.1.1, hJ⟩)
theorem y3_hasCol {x : Int32} (hb : Γ.2.2.2 ≤ b) (h : ws_I Γ b W sd H)  : mw_Cr l Γ mX2_hasColumn 1 0 0 (tb_A (b + 5)) [.ref (b + 5), .int x] H (some (.int (mo_b (mo_bl x 5)))) (ws_I Γ b W sd) :=
  (tk_hasCol (by omega) h.2.2.2.1.2 h.2.2.2.1.1 (by omega) (by omega)).wide (fun H1 hJ _ hf => h.rd3 (fun q a b => hf q a (by unfold tb_A; omega)) ⟨h.2.2.2.1.1, hJ⟩)
theorem y3_at {k j : Nat} (hb : Γ.2.2.2 ≤ b) (h : ws_I Γ b W sd H) (hk : k < mo_n (W 13)) (hj : j < 5) : mw_Cr l Γ mX2_at 1 0 0 (tb_A (b + 5)) [.ref (b + 5), .int (nI k), .int (nI j)] H (some (.int (W (507 + 5 * k + j)))) (ws_I Γ b W sd) :=
  (tk_at (by omega) h.2.2.2.1.2 h.2.2.2.1.1 (by omega) (by omega) hk hj).wide (fun H1 hJ _ hf => h.rd3 (fun q a b => hf q a (by unfold tb_A; omega)) ⟨h.2.2.2.1.1, hJ⟩)
theorem y3_atN {y : Int32} (hb : Γ.2.2.2 ≤ b) (h : ws_I Γ b W sd H)  : mw_Cr l Γ mX2_at 1 0 0 (tb_A (b + 5)) [.ref (b + 5), .int (-1), .int y] H (some (.int (-1))) (ws_I Γ b W sd) :=
  (tk_atN (by omega) h.2.2.2.1.2 h.2.2.2.1.1 (by omega) (by omega)).wide (fun H1 hJ _ hf => h.rd3 (fun q a b => hf q a (by unfold tb_A; omega)) ⟨h.2.2.2.1.1, hJ⟩)
theorem y3_dropN  (hb : Γ.2.2.2 ≤ b) (h : ws_I Γ b W sd H)  : mw_Cr l Γ mX2_drop 1 0 0 (tb_A (b + 5)) [.ref (b + 5), .int (-1)] H none (ws_I Γ b W sd) :=
  (tk_dropN (by omega) h.2.2.2.1.2 h.2.2.2.1.1 (by omega) (by omega)).wide (fun H1 hJ _ hf => h.rd3 (fun q a b => hf q a (by unfold tb_A; omega)) ⟨h.2.2.2.1.1, hJ⟩)
theorem y3_add {a0 a1 a2 a3 a4 : Int32} (hb : Γ.2.2.2 ≤ b) (h : ws_I Γ b W sd H) (hn : W 13 = nI (mo_n (W 13))) (hlt : mo_n (W 13) < 6) : mw_Cr l Γ mX2_add 1 0 0 (tb_A (b + 5)) [.ref (b + 5), .int a0, .int a1, .int a2, .int a3, .int a4, .int (nI 0)] H none (ws_I Γ b (upd (mo_put W (507 + 5 * mo_n (W 13)) 5 (mo_r5 a0 a1 a2 a3 a4)) 13 (W 13 + nI 1)) sd) := by
  obtain ⟨W2, hW2⟩ : ∃ W2, W2 = upd (mo_put W (507 + 5 * mo_n (W 13)) 5 (mo_r5 a0 a1 a2 a3 a4)) 13 (W 13 + nI 1) := ⟨_, rfl⟩
  rw [← hW2]
  have hc : W2 13 = W 13 + nI 1 := by rw [hW2, pk_us]
  have hc2 : mo_n (W2 13) = mo_n (W 13) + 1 := by rw [hc]; exact yy_cnt hn (by omega)
  have hout : ∀ j, ¬ (j = 13 ∨ (507 ≤ j ∧ j < 537)) → W2 j = W j := fun j hj => by rw [hW2, pk_un (by omega), mo_put_out (by omega)]
  refine (tk_add (g' := fun k j => W2 (507 + 5 * k + j)) (by omega) h.2.2.2.1.2 h.2.2.2.1.1 (by omega) (by omega) hlt (fun j hj => ?_) (fun a ha c hc => ?_)).wide (fun H1 hJ _ hf => h.put3 hout (fun q a b => hf q a (by unfold tb_A; omega)) ⟨by rw [hc2]; omega, by rw [hc2]; exact hJ⟩)
  · show W2 _ = _
    rw [hW2, pk_un (by omega), mo_put_in (by omega) (by omega), Nat.add_sub_cancel_left]
    rcases (show j = 0 ∨ j = 1 ∨ j = 2 ∨ j = 3 ∨ j = 4 by omega) with rfl | rfl | rfl | rfl | rfl <;> rfl
  · show W2 _ = W _
    rw [hW2, pk_un (by omega), mo_put_out (by omega)]
theorem y3_drop {k : Nat} (hb : Γ.2.2.2 ≤ b) (h : ws_I Γ b W sd H) (hn : W 13 = nI (mo_n (W 13))) (hk : k < mo_n (W 13)) : mw_Cr l Γ mX2_drop 1 0 0 (tb_A (b + 5)) [.ref (b + 5), .int (nI k)] H none (ws_I Γ b (mo_rm W 507 5 13 k) sd) := by
  have hL : mo_n (W 13) ≤ 6 := h.2.2.2.1.1
  obtain ⟨W2, hW2⟩ : ∃ W2, W2 = mo_rm W 507 5 13 k := ⟨_, rfl⟩
  rw [← hW2]
  have hc : W2 13 = W 13 - nI 1 := by rw [hW2]; unfold mo_rm; rw [pk_us]
  have hc2 : mo_n (W2 13) = mo_n (W 13) - 1 := by rw [hc]; exact yy_cntM hn (by omega) (by omega)
  have hout : ∀ j, ¬ (j = 13 ∨ (507 ≤ j ∧ j < 537)) → W2 j = W j := fun j hj => by rw [hW2]; unfold mo_rm; rw [pk_un (by omega)]; unfold va_cpy; rw [if_neg (by omega)]
  refine (tk_drop (g' := fun k j => W2 (507 + 5 * k + j)) (by omega) h.2.2.2.1.2 h.2.2.2.1.1 (by omega) (by omega) hk (fun a ha c hc => ?_) (fun a ha ha2 c hc => ?_)).wide (fun H1 hJ _ hf => h.put3 hout (fun q a b => hf q a (by unfold tb_A; omega)) ⟨by rw [hc2]; omega, by rw [hc2]; exact hJ⟩)
  · show W2 _ = W _
    rw [hW2]; unfold mo_rm; rw [pk_un (by omega)]; unfold va_cpy; rw [if_neg (by omega)]
  · show W2 _ = W _
    rw [hW2]; unfold mo_rm; rw [pk_un (by omega)]; unfold va_cpy; rw [if_pos (by omega)]; congr 1; omega
theorem y1_repeat {k : Nat} (hb : Γ.2.2.2 ≤ b) (h : ws_I Γ b W sd H) (hn : W 11 = nI (mo_n (W 11))) (hk : k < mo_n (W 11)) (hlt : mo_n (W 11) < 24) : mw_Cr l Γ mX2_repeat 1 0 0 (tb_A (b + 1)) [.ref (b + 1), .int (nI k)] H none (ws_I Γ b (mo_twice W k) sd) := by
  obtain ⟨W2, hW2⟩ : ∃ W2, W2 = mo_twice W k := ⟨_, rfl⟩
  rw [← hW2]
  have hc : W2 11 = W 11 + nI 1 := by rw [hW2]; unfold mo_twice; rw [pk_us]
  have hc2 : mo_n (W2 11) = mo_n (W 11) + 1 := by rw [hc]; exact yy_cnt hn (by omega)
  have hout : ∀ j, ¬ (j = 11 ∨ (327 ≤ j ∧ j < 471)) → W2 j = W j := fun j hj => by rw [hW2]; unfold mo_twice; rw [pk_un (by omega), mo_put_out (by omega)]
  refine (tk_repeat (g' := fun k j => W2 (327 + 6 * k + j)) (by omega) h.2.1.2 h.2.1.1 (by omega) (by omega) hk hlt (fun j hj => ?_) (fun a ha c hc => ?_)).wide (fun H1 hJ _ hf => h.put1 hout (fun q a b => hf q a (by unfold tb_A; omega)) ⟨by rw [hc2]; omega, by rw [hc2]; exact hJ⟩)
  · show W2 _ = W _
    rw [hW2]; unfold mo_twice; rw [pk_un (by omega), mo_put_in (by omega) (by omega), Nat.add_sub_cancel_left]
  · show W2 _ = W _
    rw [hW2]; unfold mo_twice; rw [pk_un (by omega), mo_put_out (by omega)]
theorem y3_put {k j : Nat} {x : Int32} (hb : Γ.2.2.2 ≤ b) (h : ws_I Γ b W sd H) (hk : k < mo_n (W 13)) (hj : j < 5) : mw_Cr l Γ mX2_put 1 0 0 (tb_A (b + 5)) [.ref (b + 5), .int (nI k), .int (nI j), .int x] H none (ws_I Γ b (upd W (507 + 5 * k + j) x) sd) := by
  have hL : mo_n (W 13) ≤ 6 := h.2.2.2.1.1
  refine (tk_put (g' := fun a c => upd W (507 + 5 * k + j) x (507 + 5 * a + c)) (by omega) h.2.2.2.1.2 h.2.2.2.1.1 (by omega) (by omega) hk hj pk_us (fun a ha c hc hne => pk_un (by omega))).wide (fun H1 hJ _ hf => h.put3 (fun a ha => pk_un (by omega)) (fun q a b => hf q a (by unfold tb_A; omega)) ?_)
  unfold w3; rw [pk_un (by omega)]; exact ⟨hL, hJ⟩
theorem y4_at {k j : Nat} (hb : Γ.2.2.2 ≤ b) (h : ws_I Γ b W sd H) (hk : k < 5) (hj : j < 5) : mw_Cr l Γ mX2_at 1 0 0 (tb_A (b + 7)) [.ref (b + 7), .int (nI k), .int (nI j)] H (some (.int (W (22 + 5 * j + k)))) (ws_I Γ b W sd) :=
  (tk_at (by omega) h.2.2.2.2.1 (by omega) (by omega) (by omega) hk hj).wide (fun H1 hJ _ hf => h.rd4 (fun q a b => hf q a (by unfold tb_A; omega)) hJ)
theorem y4_atN {y : Int32} (hb : Γ.2.2.2 ≤ b) (h : ws_I Γ b W sd H)  : mw_Cr l Γ mX2_at 1 0 0 (tb_A (b + 7)) [.ref (b + 7), .int (-1), .int y] H (some (.int (-1))) (ws_I Γ b W sd) :=
  (tk_atN (by omega) h.2.2.2.2.1 (by omega) (by omega) (by omega)).wide (fun H1 hJ _ hf => h.rd4 (fun q a b => hf q a (by unfold tb_A; omega)) hJ)
theorem y4_putN {x y : Int32} (hb : Γ.2.2.2 ≤ b) (h : ws_I Γ b W sd H)  : mw_Cr l Γ mX2_put 1 0 0 (tb_A (b + 7)) [.ref (b + 7), .int (-1), .int y, .int x] H none (ws_I Γ b W sd) :=
  (tk_putN (by omega) h.2.2.2.2.1 (by omega) (by omega) (by omega)).wide (fun H1 hJ _ hf => h.rd4 (fun q a b => hf q a (by unfold tb_A; omega)) hJ)
theorem y4_hasRow {x : Int32} (hb : Γ.2.2.2 ≤ b) (h : ws_I Γ b W sd H)  : mw_Cr l Γ mX2_hasRow 1 0 0 (tb_A (b + 7)) [.ref (b + 7), .int x] H (some (.int (mo_b (mo_bl x 5)))) (ws_I Γ b W sd) :=
  (tk_hasRow (by omega) h.2.2.2.2.1 (by omega) (by omega) (by omega)).wide (fun H1 hJ _ hf => h.rd4 (fun q a b => hf q a (by unfold tb_A; omega)) hJ)
theorem y4_hasCol {x : Int32} (hb : Γ.2.2.2 ≤ b) (h : ws_I Γ b W sd H)  : mw_Cr l Γ mX2_hasColumn 1 0 0 (tb_A (b + 7)) [.ref (b + 7), .int x] H (some (.int (mo_b (mo_bl x 5)))) (ws_I Γ b W sd) :=
  (tk_hasCol (by omega) h.2.2.2.2.1 (by omega) (by omega) (by omega)).wide (fun H1 hJ _ hf => h.rd4 (fun q a b => hf q a (by unfold tb_A; omega)) hJ)
theorem y4_put {k j : Nat} {x : Int32} (hb : Γ.2.2.2 ≤ b) (h : ws_I Γ b W sd H) (hk : k < 5) (hj : j < 5) : mw_Cr l Γ mX2_put 1 0 0 (tb_A (b + 7)) [.ref (b + 7), .int (nI k), .int (nI j), .int x] H none (ws_I Γ b (upd W (22 + 5 * j + k) x) sd) :=
  (tk_put (g' := fun a c => upd W (22 + 5 * j + k) x (22 + 5 * c + a)) (by omega) h.2.2.2.2.1 (by omega) (by omega) (by omega) hk hj pk_us (fun a ha c hc hne => pk_un (by omega))).wide (fun H1 hJ _ hf => h.put4 (fun a ha => pk_un (by omega)) (fun q a b => hf q a (by unfold tb_A; omega)) hJ)
theorem y5_has {x : Int32} (hb : Γ.2.2.2 ≤ b) (h : ws_I Γ b W sd H)  : mw_Cr l Γ mX1_has 1 0 0 (tb_A (b + 9)) [.ref (b + 9), .int x] H (some (.int (mo_b (mo_bl x 40 && decide (W (47 + mo_n x) = nI 1))))) (ws_I Γ b W sd) :=
  (nk_has (by omega) h.2.2.2.2.2.1 (by omega) (by omega)).wide (fun H1 hJ _ hf => h.rd5 (fun q a b => hf q a (by unfold tb_A; omega)) hJ)
theorem y5_size  (hb : Γ.2.2.2 ≤ b) (h : ws_I Γ b W sd H)  : mw_Cr l Γ mX1_size 2 0 0 (tb_A (b + 9)) [.ref (b + 9)] H (some (.int (nI (mo_cnt (fun k => decide (W (47 + k) = nI 1)) 40)))) (ws_I Γ b W sd) :=
  (nk_size (by omega) h.2.2.2.2.2.1 (by omega) (by omega)).wide (fun H1 hJ _ hf => h.rd5 (fun q a b => hf q a (by unfold tb_A; omega)) hJ)
theorem y5_add {k : Nat} (hb : Γ.2.2.2 ≤ b) (h : ws_I Γ b W sd H) (hk : k < 40) : mw_Cr l Γ mX1_add 1 0 0 (tb_A (b + 9)) [.ref (b + 9), .int (nI k)] H none (ws_I Γ b (upd W (47 + k) (nI 1)) sd) :=
  (nk_add (S' := fun j => decide (upd W (47 + k) (nI 1) (47 + j) = nI 1)) (by omega) h.2.2.2.2.2.1 (by omega) (by omega) hk (fun j hj => yy_setA)).wide (fun H1 hJ _ hf => h.put5 (fun a ha => pk_un (by omega)) (fun q a b => hf q a (by unfold tb_A; omega)) hJ)
theorem y5_rem {k : Nat} (hb : Γ.2.2.2 ≤ b) (h : ws_I Γ b W sd H) (hk : k < 40) : mw_Cr l Γ mX1_remove 1 0 0 (tb_A (b + 9)) [.ref (b + 9), .int (nI k)] H none (ws_I Γ b (upd W (47 + k) (nI 0)) sd) :=
  (nk_rem (S' := fun j => decide (upd W (47 + k) (nI 0) (47 + j) = nI 1)) (by omega) h.2.2.2.2.2.1 (by omega) (by omega) hk (fun j hj => yy_setR (by decide))).wide (fun H1 hJ _ hf => h.put5 (fun a ha => pk_un (by omega)) (fun q a b => hf q a (by unfold tb_A; omega)) hJ)
theorem y6_has {x : Int32} (hb : Γ.2.2.2 ≤ b) (h : ws_I Γ b W sd H)  : mw_Cr l Γ mX1_has 1 0 0 (tb_A (b + 11)) [.ref (b + 11), .int x] H (some (.int (mo_b (mo_bl x 40 && decide (W (87 + mo_n x) = nI 1))))) (ws_I Γ b W sd) :=
  (nk_has (by omega) h.2.2.2.2.2.2.1 (by omega) (by omega)).wide (fun H1 hJ _ hf => h.rd6 (fun q a b => hf q a (by unfold tb_A; omega)) hJ)
theorem y6_size  (hb : Γ.2.2.2 ≤ b) (h : ws_I Γ b W sd H)  : mw_Cr l Γ mX1_size 2 0 0 (tb_A (b + 11)) [.ref (b + 11)] H (some (.int (nI (mo_cnt (fun k => decide (W (87 + k) = nI 1)) 40)))) (ws_I Γ b W sd) :=
  (nk_size (by omega) h.2.2.2.2.2.2.1 (by omega) (by omega)).wide (fun H1 hJ _ hf => h.rd6 (fun q a b => hf q a (by unfold tb_A; omega)) hJ)
theorem y6_least  (hb : Γ.2.2.2 ≤ b) (h : ws_I Γ b W sd H)  : mw_Cr l Γ mX1_least 2 0 0 (tb_A (b + 11)) [.ref (b + 11)] H (some (.int (mo_ix (mo_least W) 40))) (ws_I Γ b W sd) :=
  (nk_least (by omega) h.2.2.2.2.2.2.1 (by omega) (by omega)).wide (fun H1 hJ _ hf => h.rd6 (fun q a b => hf q a (by unfold tb_A; omega)) hJ)
theorem y6_add {k : Nat} (hb : Γ.2.2.2 ≤ b) (h : ws_I Γ b W sd H) (hk : k < 40) (he : ¬ W (87 + k) = 0) : mw_Cr l Γ mX1_add 1 0 0 (tb_A (b + 11)) [.ref (b + 11), .int (nI k)] H none (ws_I Γ b (upd W (87 + k) (nI 1)) sd) :=
  (nk_add (S' := fun j => decide (upd W (87 + k) (nI 1) (87 + j) = nI 1)) (by omega) h.2.2.2.2.2.2.1 (by omega) (by omega) hk (fun j hj => yy_setA)).wide (fun H1 hJ _ hf => h.put6s (fun a ha => pk_un (by omega)) (fun q a b => hf q a (by unfold tb_A; omega)) hJ ((h.2.2.2.2.2.2.2.1.kp (fun q a b => hf q a (by unfold tb_A; omega))).to (fun j hj => yy_ever (by decide) he)))
theorem y6_rem {k : Nat} (hb : Γ.2.2.2 ≤ b) (h : ws_I Γ b W sd H) (hk : k < 40) (he : ¬ W (87 + k) = 0) : mw_Cr l Γ mX1_remove 1 0 0 (tb_A (b + 11)) [.ref (b + 11), .int (nI k)] H none (ws_I Γ b (upd W (87 + k) (nI 2)) sd) :=
  (nk_rem (S' := fun j => decide (upd W (87 + k) (nI 2) (87 + j) = nI 1)) (by omega) h.2.2.2.2.2.2.1 (by omega) (by omega) hk (fun j hj => yy_setR (by decide))).wide (fun H1 hJ _ hf => h.put6s (fun a ha => pk_un (by omega)) (fun q a b => hf q a (by unfold tb_A; omega)) hJ ((h.2.2.2.2.2.2.2.1.kp (fun q a b => hf q a (by unfold tb_A; omega))).to (fun j hj => yy_ever (by decide) he)))
theorem y7_has {x : Int32} (hb : Γ.2.2.2 ≤ b) (h : ws_I Γ b W sd H)  : mw_Cr l Γ mX1_has 1 0 0 (tb_A (b + 13)) [.ref (b + 13), .int x] H (some (.int (mo_b (mo_bl x 40 && (!decide (W (87 + mo_n x) = 0)))))) (ws_I Γ b W sd) :=
  (nk_has (by omega) h.2.2.2.2.2.2.2.1 (by omega) (by omega)).wide (fun H1 hJ _ hf => h.rd7 (fun q a b => hf q a (by unfold tb_A; omega)) hJ)
theorem y7_add {k : Nat} (hb : Γ.2.2.2 ≤ b) (h : ws_I Γ b W sd H) (hk : k < 40) (he : W (87 + k) = 0) : mw_Cr l Γ mX1_add 1 0 0 (tb_A (b + 13)) [.ref (b + 13), .int (nI k)] H none (ws_I Γ b (upd W (87 + k) (nI 2)) sd) :=
  (nk_add (S' := fun j => !decide (upd W (87 + k) (nI 2) (87 + j) = 0)) (by omega) h.2.2.2.2.2.2.2.1 (by omega) (by omega) hk (fun j hj => yy_everA)).wide (fun H1 hJ _ hf => h.put7s (fun a ha => pk_un (by omega)) (fun q a b => hf q a (by unfold tb_A; omega)) ((h.2.2.2.2.2.2.1.kp (fun q a b => hf q a (by unfold tb_A; omega))).to (fun j hj => yy_sp he)) hJ)
theorem y9_has {x : Int32} (hb : Γ.2.2.2 ≤ b) (h : ws_I Γ b W sd H)  : mw_Cr l Γ mX1_has 1 0 0 (tb_A (b + 16)) [.ref (b + 16), .int x] H (some (.int (mo_b (mo_bl x 100 && decide (W (127 + 100 * 0 + mo_n x) = nI 1))))) (ws_I Γ b W sd) :=
  (nk_has (by omega) h.2.2.2.2.2.2.2.2.2.1 (by omega) (by omega)).wide (fun H1 hJ _ hf => h.rd9 (fun q a b => hf q a (by unfold tb_A; omega)) hJ)
theorem y9_size  (hb : Γ.2.2.2 ≤ b) (h : ws_I Γ b W sd H)  : mw_Cr l Γ mX1_size 2 0 0 (tb_A (b + 16)) [.ref (b + 16)] H (some (.int (nI (mo_cnt (fun k => decide (W (127 + 100 * 0 + k) = nI 1)) 100)))) (ws_I Γ b W sd) :=
  (nk_size (by omega) h.2.2.2.2.2.2.2.2.2.1 (by omega) (by omega)).wide (fun H1 hJ _ hf => h.rd9 (fun q a b => hf q a (by unfold tb_A; omega)) hJ)
theorem y9_inRow  (hb : Γ.2.2.2 ≤ b) (h : ws_I Γ b W sd H)  : mw_Cr l Γ mX1_inRow 2 0 0 (tb_A (b + 16)) [.ref (b + 16)] H (some (.int (nI (mo_row W 0)))) (ws_I Γ b W sd) :=
  (nk_inRow (by omega) h.2.2.2.2.2.2.2.2.2.1 (by omega) (by omega)).wide (fun H1 hJ _ hf => h.rd9 (fun q a b => hf q a (by unfold tb_A; omega)) hJ)
theorem y9_add {k : Nat} (hb : Γ.2.2.2 ≤ b) (h : ws_I Γ b W sd H) (hk : k < 100) : mw_Cr l Γ mX1_add 1 0 0 (tb_A (b + 16)) [.ref (b + 16), .int (nI k)] H none (ws_I Γ b (upd W (127 + 100 * 0 + k) (nI 1)) sd) :=
  (nk_add (S' := fun j => decide (upd W (127 + 100 * 0 + k) (nI 1) (127 + 100 * 0 + j) = nI 1)) (by omega) h.2.2.2.2.2.2.2.2.2.1 (by omega) (by omega) hk (fun j hj => yy_setA)).wide (fun H1 hJ _ hf => h.put9 (fun a ha => pk_un (by omega)) (fun q a b => hf q a (by unfold tb_A; omega)) hJ)
theorem y10_has {x : Int32} (hb : Γ.2.2.2 ≤ b) (h : ws_I Γ b W sd H)  : mw_Cr l Γ mX1_has 1 0 0 (tb_A (b + 18)) [.ref (b + 18), .int x] H (some (.int (mo_b (mo_bl x 32768 && mo_bit W 0 (mo_n x))))) (ws_I Γ b W sd) :=
  (nk_has (by omega) h.2.2.2.2.2.2.2.2.2.2.1 (by omega) (by omega)).wide (fun H1 hJ _ hf => h.rd10 (fun q a b => hf q a (by unfold tb_A; omega)) hJ)
theorem y10_add {k : Nat} (hb : Γ.2.2.2 ≤ b) (h : ws_I Γ b W sd H) (hk : k < 32768) : mw_Cr l Γ mX1_add 1 0 0 (tb_A (b + 18)) [.ref (b + 18), .int (nI k)] H none (ws_I Γ b (mo_note W 0 k) sd) :=
  (nk_add (S' := fun j => mo_bit (mo_note W 0 k) 0 j) (by omega) h.2.2.2.2.2.2.2.2.2.2.1 (by omega) (by omega) hk (fun j hj => mb_note (by omega) j hk hj)).wide (fun H1 hJ _ hf => h.put10 (fun a ha => by unfold mo_note; exact pk_un (by omega)) (fun q a b => hf q a (by unfold tb_A; omega)) hJ)
theorem y12_has {x : Int32} (hb : Γ.2.2.2 ≤ b) (h : ws_I Γ b W sd H)  : mw_Cr l Γ mX1_has 1 0 0 (tb_A (b + 21)) [.ref (b + 21), .int x] H (some (.int (mo_b (mo_bl x 100 && decide (W (127 + 100 * 1 + mo_n x) = nI 1))))) (ws_I Γ b W sd) :=
  (nk_has (by omega) h.2.2.2.2.2.2.2.2.2.2.2.2.1 (by omega) (by omega)).wide (fun H1 hJ _ hf => h.rd12 (fun q a b => hf q a (by unfold tb_A; omega)) hJ)
theorem y12_size  (hb : Γ.2.2.2 ≤ b) (h : ws_I Γ b W sd H)  : mw_Cr l Γ mX1_size 2 0 0 (tb_A (b + 21)) [.ref (b + 21)] H (some (.int (nI (mo_cnt (fun k => decide (W (127 + 100 * 1 + k) = nI 1)) 100)))) (ws_I Γ b W sd) :=
  (nk_size (by omega) h.2.2.2.2.2.2.2.2.2.2.2.2.1 (by omega) (by omega)).wide (fun H1 hJ _ hf => h.rd12 (fun q a b => hf q a (by unfold tb_A; omega)) hJ)
theorem y12_inRow  (hb : Γ.2.2.2 ≤ b) (h : ws_I Γ b W sd H)  : mw_Cr l Γ mX1_inRow 2 0 0 (tb_A (b + 21)) [.ref (b + 21)] H (some (.int (nI (mo_row W 1)))) (ws_I Γ b W sd) :=
  (nk_inRow (by omega) h.2.2.2.2.2.2.2.2.2.2.2.2.1 (by omega) (by omega)).wide (fun H1 hJ _ hf => h.rd12 (fun q a b => hf q a (by unfold tb_A; omega)) hJ)
theorem y12_add {k : Nat} (hb : Γ.2.2.2 ≤ b) (h : ws_I Γ b W sd H) (hk : k < 100) : mw_Cr l Γ mX1_add 1 0 0 (tb_A (b + 21)) [.ref (b + 21), .int (nI k)] H none (ws_I Γ b (upd W (127 + 100 * 1 + k) (nI 1)) sd) :=
  (nk_add (S' := fun j => decide (upd W (127 + 100 * 1 + k) (nI 1) (127 + 100 * 1 + j) = nI 1)) (by omega) h.2.2.2.2.2.2.2.2.2.2.2.2.1 (by omega) (by omega) hk (fun j hj => yy_setA)).wide (fun H1 hJ _ hf => h.put12 (fun a ha => pk_un (by omega)) (fun q a b => hf q a (by unfold tb_A; omega)) hJ)
theorem y13_has {x : Int32} (hb : Γ.2.2.2 ≤ b) (h : ws_I Γ b W sd H)  : mw_Cr l Γ mX1_has 1 0 0 (tb_A (b + 23)) [.ref (b + 23), .int x] H (some (.int (mo_b (mo_bl x 32768 && mo_bit W 1 (mo_n x))))) (ws_I Γ b W sd) :=
  (nk_has (by omega) h.2.2.2.2.2.2.2.2.2.2.2.2.2.1 (by omega) (by omega)).wide (fun H1 hJ _ hf => h.rd13 (fun q a b => hf q a (by unfold tb_A; omega)) hJ)
theorem y13_add {k : Nat} (hb : Γ.2.2.2 ≤ b) (h : ws_I Γ b W sd H) (hk : k < 32768) : mw_Cr l Γ mX1_add 1 0 0 (tb_A (b + 23)) [.ref (b + 23), .int (nI k)] H none (ws_I Γ b (mo_note W 1 k) sd) :=
  (nk_add (S' := fun j => mo_bit (mo_note W 1 k) 1 j) (by omega) h.2.2.2.2.2.2.2.2.2.2.2.2.2.1 (by omega) (by omega) hk (fun j hj => mb_note (by omega) j hk hj)).wide (fun H1 hJ _ hf => h.put13 (fun a ha => by unfold mo_note; exact pk_un (by omega)) (fun q a b => hf q a (by unfold tb_A; omega)) hJ)
end VC
