set_option maxHeartbeats 4000000 in
set_option maxRecDepth 20000 in
theorem cm_challenge {l : Launch} {Γ : mw_C} {mb : Nat} (hmb : Γ.2.2.2 ≤ mb) {W : Nat → Int32} {ρ : md_R} {H : Heap} {e p c : Nat} (hH : md_I Γ mb W ρ H) (hv : iv c W) (he : e < 2) (hp : p < 5) : mw_Cr l Γ mX5_challengeNow 4 0 0 (md_A mb) [.ref mb, .int (nI e), .int (nI p)] H none (md_I Γ mb (mo_challenge W e p) ρ) := by
  have hc := hv.1
  obtain ⟨n, hn2, hn⟩ := hc.2.2
  refine mw_ofG (P := pX5_challengeNow) (by decide) (md_As hmb) oX5_challengeNow (Nat.le_of_ble_eq_true rfl) ?_
  intro pg e0 sg mg below meth cd X hs
  refine mw_pre (I' := md_I Γ mb W ρ) (fun H1 h1 => by rw [h1]; exact hH) ?_
  refine mw_steps X 1 (pc' := 1) (lv' := [(0, .ref mb), (1, .int (nI e)), (2, .int (nI p))]) (st' := [.ref mb]) rfl ?_
  refine mw_get X kf_X5_7.fl kc_5 rfl (v := .ref (mb + 1)) (fun H h => ⟨_, h.1, rfl⟩) ?_
  refine mw_steps X 1 (pc' := 6) (lv' := [(0, .ref mb), (1, .int (nI e)), (2, .int (nI p))]) (st' := [.int (nI 13), .ref (mb + 1)]) rfl ?_
  refine mw_iald X (v := nI n) (13) rfl rfl (fun H h => ⟨_, _, h.2.1, by omega, by decide, hn⟩) ?_
  refine mw_steps X 1 (pc' := 9) (lv' := [(0, .ref mb), (1, .int (nI e)), (2, .int (nI p))]) (st' := [.int (nI 6), .int (nI n)]) rfl ?_
  refine mw_icmp_ne X 23 rfl rfl (fun c9 => ?_) (fun c9 => ?_)
  · refine mw_steps X 3 (pc' := 28) (lv' := [(0, .ref mb), (1, .int (nI e)), (2, .int (nI p))]) (st' := [.ref mb, .int (nI 5), .int (nI 507)]) rfl ?_
    refine mw_get X kf_X5_7.fl kc_5 rfl (v := .ref (mb + 1)) (fun H h => ⟨_, h.1, rfl⟩) ?_
    refine mw_steps X 1 (pc' := 33) (lv' := [(0, .ref mb), (1, .int (nI e)), (2, .int (nI p))]) (st' := [.int (nI 13), .ref (mb + 1), .int (nI 5), .int (nI 507)]) rfl ?_
    refine mw_iald X (v := nI n) (13) rfl rfl (fun H h => ⟨_, _, h.2.1, by omega, by decide, hn⟩) ?_
    refine mw_steps X 4 (pc' := 38) (lv' := [(3, .int ((nI 507) + ((nI 5) * (nI n)))), (0, .ref mb), (1, .int (nI e)), (2, .int (nI p))]) (st' := [.ref mb]) rfl ?_
    refine mw_get X kf_X5_7.fl kc_5 rfl (v := .ref (mb + 1)) (fun H h => ⟨_, h.1, rfl⟩) ?_
    refine mw_steps X 3 (pc' := 45) (lv' := [(3, .int ((nI 507) + ((nI 5) * (nI n)))), (0, .ref mb), (1, .int (nI e)), (2, .int (nI p))]) (st' := [.int ((nI 16) + (nI e)), .ref (mb + 1)]) rfl ?_
    refine mw_iald X (v := W (16 + e)) (16 + e) (by simp only [nI_add, pk_mul]) rfl (fun H h => ⟨_, _, h.2.1, by omega, by decide, rfl⟩) ?_
    refine mw_steps X 2 (pc' := 49) (lv' := [(4, .int (W (16 + e))), (3, .int ((nI 507) + ((nI 5) * (nI n)))), (0, .ref mb), (1, .int (nI e)), (2, .int (nI p))]) (st' := [.ref mb]) rfl ?_
    refine mw_get X kf_X5_7.fl kc_5 rfl (v := .ref (mb + 1)) (fun H h => ⟨_, h.1, rfl⟩) ?_
    refine mw_steps X 4 (pc' := 57) (lv' := [(4, .int (W (16 + e))), (3, .int ((nI 507) + ((nI 5) * (nI n)))), (0, .ref mb), (1, .int (nI e)), (2, .int (nI p))]) (st' := [.int ((nI 16) + (nI e)), .ref (mb + 1), .int ((nI 16) + (nI e)), .ref (mb + 1)]) rfl ?_
    refine mw_iald X (v := W (16 + e)) (16 + e) (by simp only [nI_add, pk_mul]) rfl (fun H h => ⟨_, _, h.2.1, by omega, by decide, rfl⟩) ?_
    refine mw_steps X 2 (pc' := 60) (lv' := [(4, .int (W (16 + e))), (3, .int ((nI 507) + ((nI 5) * (nI n)))), (0, .ref mb), (1, .int (nI e)), (2, .int (nI p))]) (st' := [.int ((W (16 + e)) + (nI 1)), .int ((nI 16) + (nI e)), .ref (mb + 1)]) rfl ?_
    refine mw_iast X (I1 := md_I Γ mb (upd W (16 + e) ((W (16 + e)) + (nI 1))) ρ) (16 + e) (by simp only [nI_add, pk_mul]) rfl (fun H h => ⟨md_A1, _, _, h.2.1, by omega, by decide, fun H1 o c => h.stw o c⟩) ?_
    refine mw_steps X 1 (pc' := 62) (lv' := [(4, .int (W (16 + e))), (3, .int ((nI 507) + ((nI 5) * (nI n)))), (0, .ref mb), (1, .int (nI e)), (2, .int (nI p))]) (st' := [.ref mb]) rfl ?_
    refine mw_get X kf_X5_7.fl kc_5 rfl (v := .ref (mb + 1)) (fun H h => ⟨_, h.1, rfl⟩) ?_
    refine mw_steps X 2 (pc' := 67) (lv' := [(4, .int (W (16 + e))), (3, .int ((nI 507) + ((nI 5) * (nI n)))), (0, .ref mb), (1, .int (nI e)), (2, .int (nI p))]) (st' := [.int (nI e), .int ((nI 507) + ((nI 5) * (nI n))), .ref (mb + 1)]) rfl ?_
    refine mw_iast X (I1 := md_I Γ mb (upd (upd W (16 + e) ((W (16 + e)) + (nI 1))) (507 + 5 * n) (nI e)) ρ) (507 + 5 * n) (by simp only [nI_add, pk_mul]) rfl (fun H h => ⟨md_A1, _, _, h.2.1, by omega, by decide, fun H1 o c => h.stw o c⟩) ?_
    refine mw_steps X 1 (pc' := 69) (lv' := [(4, .int (W (16 + e))), (3, .int ((nI 507) + ((nI 5) * (nI n)))), (0, .ref mb), (1, .int (nI e)), (2, .int (nI p))]) (st' := [.ref mb]) rfl ?_
    refine mw_get X kf_X5_7.fl kc_5 rfl (v := .ref (mb + 1)) (fun H h => ⟨_, h.1, rfl⟩) ?_
    refine mw_steps X 4 (pc' := 77) (lv' := [(4, .int (W (16 + e))), (3, .int ((nI 507) + ((nI 5) * (nI n)))), (0, .ref mb), (1, .int (nI e)), (2, .int (nI p))]) (st' := [.int (W (16 + e)), .int (((nI 507) + ((nI 5) * (nI n))) + (nI 1)), .ref (mb + 1)]) rfl ?_
    refine mw_iast X (I1 := md_I Γ mb (upd (upd (upd W (16 + e) ((W (16 + e)) + (nI 1))) (507 + 5 * n) (nI e)) (507 + 5 * n + 1) (W (16 + e))) ρ) (507 + 5 * n + 1) (by simp only [nI_add, pk_mul]) rfl (fun H h => ⟨md_A1, _, _, h.2.1, by omega, by decide, fun H1 o c => h.stw o c⟩) ?_
    refine mw_steps X 1 (pc' := 79) (lv' := [(4, .int (W (16 + e))), (3, .int ((nI 507) + ((nI 5) * (nI n)))), (0, .ref mb), (1, .int (nI e)), (2, .int (nI p))]) (st' := [.ref mb]) rfl ?_
    refine mw_get X kf_X5_7.fl kc_5 rfl (v := .ref (mb + 1)) (fun H h => ⟨_, h.1, rfl⟩) ?_
    refine mw_steps X 4 (pc' := 86) (lv' := [(4, .int (W (16 + e))), (3, .int ((nI 507) + ((nI 5) * (nI n)))), (0, .ref mb), (1, .int (nI e)), (2, .int (nI p))]) (st' := [.int (nI p), .int (((nI 507) + ((nI 5) * (nI n))) + (nI 2)), .ref (mb + 1)]) rfl ?_
    refine mw_iast X (I1 := md_I Γ mb (upd (upd (upd (upd W (16 + e) ((W (16 + e)) + (nI 1))) (507 + 5 * n) (nI e)) (507 + 5 * n + 1) (W (16 + e))) (507 + 5 * n + 2) (nI p)) ρ) (507 + 5 * n + 2) (by simp only [nI_add, pk_mul]) rfl (fun H h => ⟨md_A1, _, _, h.2.1, by omega, by decide, fun H1 o c => h.stw o c⟩) ?_
    refine mw_steps X 1 (pc' := 88) (lv' := [(4, .int (W (16 + e))), (3, .int ((nI 507) + ((nI 5) * (nI n)))), (0, .ref mb), (1, .int (nI e)), (2, .int (nI p))]) (st' := [.ref mb]) rfl ?_
    refine mw_get X kf_X5_7.fl kc_5 rfl (v := .ref (mb + 1)) (fun H h => ⟨_, h.1, rfl⟩) ?_
    refine mw_steps X 4 (pc' := 95) (lv' := [(4, .int (W (16 + e))), (3, .int ((nI 507) + ((nI 5) * (nI n)))), (0, .ref mb), (1, .int (nI e)), (2, .int (nI p))]) (st' := [.ref mb, .int (((nI 507) + ((nI 5) * (nI n))) + (nI 3)), .ref (mb + 1)]) rfl ?_
    refine mw_get X kf_X5_7.fl kc_5 rfl (v := .ref (mb + 1)) (fun H h => ⟨_, h.1, rfl⟩) ?_
    refine mw_steps X 1 (pc' := 99) (lv' := [(4, .int (W (16 + e))), (3, .int ((nI 507) + ((nI 5) * (nI n)))), (0, .ref mb), (1, .int (nI e)), (2, .int (nI p))]) (st' := [.int (nI 0), .ref (mb + 1), .int (((nI 507) + ((nI 5) * (nI n))) + (nI 3)), .ref (mb + 1)]) rfl ?_
    refine mw_iald X (v := W (0)) (0) rfl rfl (fun H h => ⟨_, _, h.2.1, by omega, by decide, (by simp (disch := omega) only [pk_un])⟩) ?_
    refine mw_iast X (I1 := md_I Γ mb (upd (upd (upd (upd (upd W (16 + e) ((W (16 + e)) + (nI 1))) (507 + 5 * n) (nI e)) (507 + 5 * n + 1) (W (16 + e))) (507 + 5 * n + 2) (nI p)) (507 + 5 * n + 3) (W (0))) ρ) (507 + 5 * n + 3) (by simp only [nI_add, pk_mul]) rfl (fun H h => ⟨md_A1, _, _, h.2.1, by omega, by decide, fun H1 o c => h.stw o c⟩) ?_
    refine mw_steps X 1 (pc' := 102) (lv' := [(4, .int (W (16 + e))), (3, .int ((nI 507) + ((nI 5) * (nI n)))), (0, .ref mb), (1, .int (nI e)), (2, .int (nI p))]) (st' := [.ref mb]) rfl ?_
    refine mw_get X kf_X5_7.fl kc_5 rfl (v := .ref (mb + 1)) (fun H h => ⟨_, h.1, rfl⟩) ?_
    refine mw_steps X 4 (pc' := 109) (lv' := [(4, .int (W (16 + e))), (3, .int ((nI 507) + ((nI 5) * (nI n)))), (0, .ref mb), (1, .int (nI e)), (2, .int (nI p))]) (st' := [.int (nI 0), .int (((nI 507) + ((nI 5) * (nI n))) + (nI 4)), .ref (mb + 1)]) rfl ?_
    refine mw_iast X (I1 := md_I Γ mb (upd (upd (upd (upd (upd (upd W (16 + e) ((W (16 + e)) + (nI 1))) (507 + 5 * n) (nI e)) (507 + 5 * n + 1) (W (16 + e))) (507 + 5 * n + 2) (nI p)) (507 + 5 * n + 3) (W (0))) (507 + 5 * n + 4) (nI 0)) ρ) (507 + 5 * n + 4) (by simp only [nI_add, pk_mul]) rfl (fun H h => ⟨md_A1, _, _, h.2.1, by omega, by decide, fun H1 o c => h.stw o c⟩) ?_
    refine mw_steps X 1 (pc' := 111) (lv' := [(4, .int (W (16 + e))), (3, .int ((nI 507) + ((nI 5) * (nI n)))), (0, .ref mb), (1, .int (nI e)), (2, .int (nI p))]) (st' := [.ref mb]) rfl ?_
    refine mw_get X kf_X5_7.fl kc_5 rfl (v := .ref (mb + 1)) (fun H h => ⟨_, h.1, rfl⟩) ?_
    refine mw_steps X 2 (pc' := 117) (lv' := [(4, .int (W (16 + e))), (3, .int ((nI 507) + ((nI 5) * (nI n)))), (0, .ref mb), (1, .int (nI e)), (2, .int (nI p))]) (st' := [.int (nI 13), .ref (mb + 1), .int (nI 13), .ref (mb + 1)]) rfl ?_
    refine mw_iald X (v := nI n) (13) rfl rfl (fun H h => ⟨_, _, h.2.1, by omega, by decide, (by simp (disch := omega) only [pk_un]; exact hn)⟩) ?_
    refine mw_steps X 2 (pc' := 120) (lv' := [(4, .int (W (16 + e))), (3, .int ((nI 507) + ((nI 5) * (nI n)))), (0, .ref mb), (1, .int (nI e)), (2, .int (nI p))]) (st' := [.int ((nI n) + (nI 1)), .int (nI 13), .ref (mb + 1)]) rfl ?_
    refine mw_iast X (I1 := md_I Γ mb (upd (upd (upd (upd (upd (upd (upd W (16 + e) ((W (16 + e)) + (nI 1))) (507 + 5 * n) (nI e)) (507 + 5 * n + 1) (W (16 + e))) (507 + 5 * n + 2) (nI p)) (507 + 5 * n + 3) (W (0))) (507 + 5 * n + 4) (nI 0)) (13) ((nI n) + (nI 1))) ρ) (13) rfl rfl (fun H h => ⟨md_A1, _, _, h.2.1, by omega, by decide, fun H1 o c => h.stw o c⟩) ?_
    refine mw_steps X 5 (pc' := 127) (lv' := [(4, .int (W (16 + e))), (3, .int ((nI 507) + ((nI 5) * (nI n)))), (0, .ref mb), (1, .int (nI e)), (2, .int (nI p))]) (st' := [.int (W (16 + e)), .int (nI 1), .int (nI p), .int (nI e), .ref mb]) rfl ?_
    rw [show upd (upd (upd (upd (upd (upd (upd W (16 + e) ((W (16 + e)) + (nI 1))) (507 + 5 * n) (nI e)) (507 + 5 * n + 1) (W (16 + e))) (507 + 5 * n + 2) (nI p)) (507 + 5 * n + 3) (W (0))) (507 + 5 * n + 4) (nI 0)) (13) ((nI n) + (nI 1)) = mo_ask W e p from Eq.symm (by exact ml_ask_add hn hn2 c9)]
    refine mw_cV4v X kd_X5_goes kv_X5_goes kl_X5_47 (ci := 5) rfl rfl (Nat.le_of_ble_eq_true rfl) ⟨Nat.le_of_ble_eq_true rfl, Nat.le_of_ble_eq_true rfl⟩ ⟨Nat.le_of_ble_eq_true rfl, Nat.le_of_ble_eq_true rfl⟩ (fun _ h => h) (fun H h => ⟨⟨_, h.1⟩, cm_goes hmb h (iv_ask hv he hp).1 he hp (by omega)⟩) ?_
    exact mw_vret X rfl rfl (fun H h => ⟨rfl, by rw [show mo_challenge W e p = mo_goes (mo_ask W e p) e p 1 (W (16 + e)) from by rfl]; exact h⟩)
  · have hn6 : n = 6 := (nI_eq (by omega) (by omega)).mp c9
    subst hn6
    refine mw_steps X 5 (pc' := 20) (lv' := [(0, .ref mb), (1, .int (nI e)), (2, .int (nI p))]) (st' := [.int (nI 0), .int (nI 13), .int (nI 5), .int (nI 507), .ref mb]) rfl ?_
    refine mw_cV4v X kd_X5_removeAt kv_X5_removeAt kl_X5_29 (ci := 5) rfl rfl (Nat.le_of_ble_eq_true rfl) ⟨Nat.le_of_ble_eq_true rfl, Nat.le_of_ble_eq_true rfl⟩ ⟨Nat.le_of_ble_eq_true rfl, Nat.le_of_ble_eq_true rfl⟩ (fun _ h => h) (fun H h => ⟨⟨_, h.1⟩, cm_removeAt hmb h (f := 507) (z := 5) (q := 13) hn (by omega) (by omega) (by omega) (by omega) (by omega)⟩) ?_
    obtain ⟨V, hV⟩ : ∃ V, V = mo_rm W 507 5 13 0 := ⟨_, rfl⟩
    rw [← hV]
    have hV13 : V 13 = nI 5 := by rw [hV]; exact ml_rma_q hn (by omega)
    have hV16 : V (16 + e) = W (16 + e) := by rw [hV]; exact ml_rma_out hn (by omega) (by omega) (by omega) (by omega)
    have hV0 : V 0 = W 0 := by rw [hV]; exact ml_rma_out hn (by omega) (by omega) (by omega) (by omega)
    refine mw_steps X 3 (pc' := 28) (lv' := [(0, .ref mb), (1, .int (nI e)), (2, .int (nI p))]) (st' := [.ref mb, .int (nI 5), .int (nI 507)]) rfl ?_
    refine mw_get X kf_X5_7.fl kc_5 rfl (v := .ref (mb + 1)) (fun H h => ⟨_, h.1, rfl⟩) ?_
    refine mw_steps X 1 (pc' := 33) (lv' := [(0, .ref mb), (1, .int (nI e)), (2, .int (nI p))]) (st' := [.int (nI 13), .ref (mb + 1), .int (nI 5), .int (nI 507)]) rfl ?_
    refine mw_iald X (v := nI 5) (13) rfl rfl (fun H h => ⟨_, _, h.2.1, by omega, by decide, hV13⟩) ?_
    refine mw_steps X 4 (pc' := 38) (lv' := [(3, .int ((nI 507) + ((nI 5) * (nI 5)))), (0, .ref mb), (1, .int (nI e)), (2, .int (nI p))]) (st' := [.ref mb]) rfl ?_
    refine mw_get X kf_X5_7.fl kc_5 rfl (v := .ref (mb + 1)) (fun H h => ⟨_, h.1, rfl⟩) ?_
    refine mw_steps X 3 (pc' := 45) (lv' := [(3, .int ((nI 507) + ((nI 5) * (nI 5)))), (0, .ref mb), (1, .int (nI e)), (2, .int (nI p))]) (st' := [.int ((nI 16) + (nI e)), .ref (mb + 1)]) rfl ?_
    refine mw_iald X (v := W (16 + e)) (16 + e) (by simp only [nI_add, pk_mul]) rfl (fun H h => ⟨_, _, h.2.1, by omega, by decide, hV16⟩) ?_
    refine mw_steps X 2 (pc' := 49) (lv' := [(4, .int (W (16 + e))), (3, .int ((nI 507) + ((nI 5) * (nI 5)))), (0, .ref mb), (1, .int (nI e)), (2, .int (nI p))]) (st' := [.ref mb]) rfl ?_
    refine mw_get X kf_X5_7.fl kc_5 rfl (v := .ref (mb + 1)) (fun H h => ⟨_, h.1, rfl⟩) ?_
    refine mw_steps X 4 (pc' := 57) (lv' := [(4, .int (W (16 + e))), (3, .int ((nI 507) + ((nI 5) * (nI 5)))), (0, .ref mb), (1, .int (nI e)), (2, .int (nI p))]) (st' := [.int ((nI 16) + (nI e)), .ref (mb + 1), .int ((nI 16) + (nI e)), .ref (mb + 1)]) rfl ?_
    refine mw_iald X (v := W (16 + e)) (16 + e) (by simp only [nI_add, pk_mul]) rfl (fun H h => ⟨_, _, h.2.1, by omega, by decide, hV16⟩) ?_
    refine mw_steps X 2 (pc' := 60) (lv' := [(4, .int (W (16 + e))), (3, .int ((nI 507) + ((nI 5) * (nI 5)))), (0, .ref mb), (1, .int (nI e)), (2, .int (nI p))]) (st' := [.int ((W (16 + e)) + (nI 1)), .int ((nI 16) + (nI e)), .ref (mb + 1)]) rfl ?_
    refine mw_iast X (I1 := md_I Γ mb (upd V (16 + e) ((W (16 + e)) + (nI 1))) ρ) (16 + e) (by simp only [nI_add, pk_mul]) rfl (fun H h => ⟨md_A1, _, _, h.2.1, by omega, by decide, fun H1 o c => h.stw o c⟩) ?_
    refine mw_steps X 1 (pc' := 62) (lv' := [(4, .int (W (16 + e))), (3, .int ((nI 507) + ((nI 5) * (nI 5)))), (0, .ref mb), (1, .int (nI e)), (2, .int (nI p))]) (st' := [.ref mb]) rfl ?_
    refine mw_get X kf_X5_7.fl kc_5 rfl (v := .ref (mb + 1)) (fun H h => ⟨_, h.1, rfl⟩) ?_
    refine mw_steps X 2 (pc' := 67) (lv' := [(4, .int (W (16 + e))), (3, .int ((nI 507) + ((nI 5) * (nI 5)))), (0, .ref mb), (1, .int (nI e)), (2, .int (nI p))]) (st' := [.int (nI e), .int ((nI 507) + ((nI 5) * (nI 5))), .ref (mb + 1)]) rfl ?_
    refine mw_iast X (I1 := md_I Γ mb (upd (upd V (16 + e) ((W (16 + e)) + (nI 1))) (507 + 5 * 5) (nI e)) ρ) (507 + 5 * 5) (by simp only [nI_add, pk_mul]) rfl (fun H h => ⟨md_A1, _, _, h.2.1, by omega, by decide, fun H1 o c => h.stw o c⟩) ?_
    refine mw_steps X 1 (pc' := 69) (lv' := [(4, .int (W (16 + e))), (3, .int ((nI 507) + ((nI 5) * (nI 5)))), (0, .ref mb), (1, .int (nI e)), (2, .int (nI p))]) (st' := [.ref mb]) rfl ?_
    refine mw_get X kf_X5_7.fl kc_5 rfl (v := .ref (mb + 1)) (fun H h => ⟨_, h.1, rfl⟩) ?_
    refine mw_steps X 4 (pc' := 77) (lv' := [(4, .int (W (16 + e))), (3, .int ((nI 507) + ((nI 5) * (nI 5)))), (0, .ref mb), (1, .int (nI e)), (2, .int (nI p))]) (st' := [.int (W (16 + e)), .int (((nI 507) + ((nI 5) * (nI 5))) + (nI 1)), .ref (mb + 1)]) rfl ?_
    refine mw_iast X (I1 := md_I Γ mb (upd (upd (upd V (16 + e) ((W (16 + e)) + (nI 1))) (507 + 5 * 5) (nI e)) (507 + 5 * 5 + 1) (W (16 + e))) ρ) (507 + 5 * 5 + 1) (by simp only [nI_add, pk_mul]) rfl (fun H h => ⟨md_A1, _, _, h.2.1, by omega, by decide, fun H1 o c => h.stw o c⟩) ?_
    refine mw_steps X 1 (pc' := 79) (lv' := [(4, .int (W (16 + e))), (3, .int ((nI 507) + ((nI 5) * (nI 5)))), (0, .ref mb), (1, .int (nI e)), (2, .int (nI p))]) (st' := [.ref mb]) rfl ?_
    refine mw_get X kf_X5_7.fl kc_5 rfl (v := .ref (mb + 1)) (fun H h => ⟨_, h.1, rfl⟩) ?_
    refine mw_steps X 4 (pc' := 86) (lv' := [(4, .int (W (16 + e))), (3, .int ((nI 507) + ((nI 5) * (nI 5)))), (0, .ref mb), (1, .int (nI e)), (2, .int (nI p))]) (st' := [.int (nI p), .int (((nI 507) + ((nI 5) * (nI 5))) + (nI 2)), .ref (mb + 1)]) rfl ?_
    refine mw_iast X (I1 := md_I Γ mb (upd (upd (upd (upd V (16 + e) ((W (16 + e)) + (nI 1))) (507 + 5 * 5) (nI e)) (507 + 5 * 5 + 1) (W (16 + e))) (507 + 5 * 5 + 2) (nI p)) ρ) (507 + 5 * 5 + 2) (by simp only [nI_add, pk_mul]) rfl (fun H h => ⟨md_A1, _, _, h.2.1, by omega, by decide, fun H1 o c => h.stw o c⟩) ?_
    refine mw_steps X 1 (pc' := 88) (lv' := [(4, .int (W (16 + e))), (3, .int ((nI 507) + ((nI 5) * (nI 5)))), (0, .ref mb), (1, .int (nI e)), (2, .int (nI p))]) (st' := [.ref mb]) rfl ?_
    refine mw_get X kf_X5_7.fl kc_5 rfl (v := .ref (mb + 1)) (fun H h => ⟨_, h.1, rfl⟩) ?_
    refine mw_steps X 4 (pc' := 95) (lv' := [(4, .int (W (16 + e))), (3, .int ((nI 507) + ((nI 5) * (nI 5)))), (0, .ref mb), (1, .int (nI e)), (2, .int (nI p))]) (st' := [.ref mb, .int (((nI 507) + ((nI 5) * (nI 5))) + (nI 3)), .ref (mb + 1)]) rfl ?_
    refine mw_get X kf_X5_7.fl kc_5 rfl (v := .ref (mb + 1)) (fun H h => ⟨_, h.1, rfl⟩) ?_
    refine mw_steps X 1 (pc' := 99) (lv' := [(4, .int (W (16 + e))), (3, .int ((nI 507) + ((nI 5) * (nI 5)))), (0, .ref mb), (1, .int (nI e)), (2, .int (nI p))]) (st' := [.int (nI 0), .ref (mb + 1), .int (((nI 507) + ((nI 5) * (nI 5))) + (nI 3)), .ref (mb + 1)]) rfl ?_
    refine mw_iald X (v := W 0) (0) rfl rfl (fun H h => ⟨_, _, h.2.1, by omega, by decide, (by simp (disch := omega) only [pk_un]; exact hV0)⟩) ?_
    refine mw_iast X (I1 := md_I Γ mb (upd (upd (upd (upd (upd V (16 + e) ((W (16 + e)) + (nI 1))) (507 + 5 * 5) (nI e)) (507 + 5 * 5 + 1) (W (16 + e))) (507 + 5 * 5 + 2) (nI p)) (507 + 5 * 5 + 3) (W 0)) ρ) (507 + 5 * 5 + 3) (by simp only [nI_add, pk_mul]) rfl (fun H h => ⟨md_A1, _, _, h.2.1, by omega, by decide, fun H1 o c => h.stw o c⟩) ?_
    refine mw_steps X 1 (pc' := 102) (lv' := [(4, .int (W (16 + e))), (3, .int ((nI 507) + ((nI 5) * (nI 5)))), (0, .ref mb), (1, .int (nI e)), (2, .int (nI p))]) (st' := [.ref mb]) rfl ?_
    refine mw_get X kf_X5_7.fl kc_5 rfl (v := .ref (mb + 1)) (fun H h => ⟨_, h.1, rfl⟩) ?_
    refine mw_steps X 4 (pc' := 109) (lv' := [(4, .int (W (16 + e))), (3, .int ((nI 507) + ((nI 5) * (nI 5)))), (0, .ref mb), (1, .int (nI e)), (2, .int (nI p))]) (st' := [.int (nI 0), .int (((nI 507) + ((nI 5) * (nI 5))) + (nI 4)), .ref (mb + 1)]) rfl ?_
    refine mw_iast X (I1 := md_I Γ mb (upd (upd (upd (upd (upd (upd V (16 + e) ((W (16 + e)) + (nI 1))) (507 + 5 * 5) (nI e)) (507 + 5 * 5 + 1) (W (16 + e))) (507 + 5 * 5 + 2) (nI p)) (507 + 5 * 5 + 3) (W 0)) (507 + 5 * 5 + 4) (nI 0)) ρ) (507 + 5 * 5 + 4) (by simp only [nI_add, pk_mul]) rfl (fun H h => ⟨md_A1, _, _, h.2.1, by omega, by decide, fun H1 o c => h.stw o c⟩) ?_
    refine mw_steps X 1 (pc' := 111) (lv' := [(4, .int (W (16 + e))), (3, .int ((nI 507) + ((nI 5) * (nI 5)))), (0, .ref mb), (1, .int (nI e)), (2, .int (nI p))]) (st' := [.ref mb]) rfl ?_
    refine mw_get X kf_X5_7.fl kc_5 rfl (v := .ref (mb + 1)) (fun H h => ⟨_, h.1, rfl⟩) ?_
    refine mw_steps X 2 (pc' := 117) (lv' := [(4, .int (W (16 + e))), (3, .int ((nI 507) + ((nI 5) * (nI 5)))), (0, .ref mb), (1, .int (nI e)), (2, .int (nI p))]) (st' := [.int (nI 13), .ref (mb + 1), .int (nI 13), .ref (mb + 1)]) rfl ?_
    refine mw_iald X (v := nI 5) (13) rfl rfl (fun H h => ⟨_, _, h.2.1, by omega, by decide, (by simp (disch := omega) only [pk_un]; exact hV13)⟩) ?_
    refine mw_steps X 2 (pc' := 120) (lv' := [(4, .int (W (16 + e))), (3, .int ((nI 507) + ((nI 5) * (nI 5)))), (0, .ref mb), (1, .int (nI e)), (2, .int (nI p))]) (st' := [.int ((nI 5) + (nI 1)), .int (nI 13), .ref (mb + 1)]) rfl ?_
    refine mw_iast X (I1 := md_I Γ mb (upd (upd (upd (upd (upd (upd (upd V (16 + e) ((W (16 + e)) + (nI 1))) (507 + 5 * 5) (nI e)) (507 + 5 * 5 + 1) (W (16 + e))) (507 + 5 * 5 + 2) (nI p)) (507 + 5 * 5 + 3) (W 0)) (507 + 5 * 5 + 4) (nI 0)) (13) ((nI 5) + (nI 1))) ρ) (13) rfl rfl (fun H h => ⟨md_A1, _, _, h.2.1, by omega, by decide, fun H1 o c => h.stw o c⟩) ?_
    refine mw_steps X 5 (pc' := 127) (lv' := [(4, .int (W (16 + e))), (3, .int ((nI 507) + ((nI 5) * (nI 5)))), (0, .ref mb), (1, .int (nI e)), (2, .int (nI p))]) (st' := [.int (W (16 + e)), .int (nI 1), .int (nI p), .int (nI e), .ref mb]) rfl ?_
    rw [show upd (upd (upd (upd (upd (upd (upd V (16 + e) ((W (16 + e)) + (nI 1))) (507 + 5 * 5) (nI e)) (507 + 5 * 5 + 1) (W (16 + e))) (507 + 5 * 5 + 2) (nI p)) (507 + 5 * 5 + 3) (W 0)) (507 + 5 * 5 + 4) (nI 0)) (13) ((nI 5) + (nI 1)) = mo_ask W e p from Eq.symm (by exact ml_ask_full hn hV he)]
    refine mw_cV4v X kd_X5_goes kv_X5_goes kl_X5_47 (ci := 5) rfl rfl (Nat.le_of_ble_eq_true rfl) ⟨Nat.le_of_ble_eq_true rfl, Nat.le_of_ble_eq_true rfl⟩ ⟨Nat.le_of_ble_eq_true rfl, Nat.le_of_ble_eq_true rfl⟩ (fun _ h => h) (fun H h => ⟨⟨_, h.1⟩, cm_goes hmb h (iv_ask hv he hp).1 he hp (by omega)⟩) ?_
    exact mw_vret X rfl rfl (fun H h => ⟨rfl, by rw [show mo_challenge W e p = mo_goes (mo_ask W e p) e p 1 (W (16 + e)) from by rfl]; exact h⟩)
set_option maxHeartbeats 4000000 in
set_option maxRecDepth 20000 in
theorem cm_fa {l : Launch} {Γ : mw_C} {mb : Nat} (hmb : Γ.2.2.2 ≤ mb) {W : Nat → Int32} {ρ : md_R} {H : Heap} {e wh n : Nat} {v : Int32} (hH : md_I Γ mb W ρ H) (hn : W 13 = nI n) (hn2 : n ≤ 6) (hw : wh < 5) : mw_Cr l Γ mX5_findAsked 1 0 0 (md_A mb) [.ref mb, .int (nI e), .int (nI wh), .int v] H (some (.int (mo_ix (mo_fa W e wh v) n))) (md_I Γ mb W ρ) := by
  refine mw_ofG (P := pX5_findAsked) (by decide) (md_As hmb) oX5_findAsked (Nat.le_of_ble_eq_true rfl) ?_
  intro pg e0 sg mg below meth cd X hs
  refine mw_pre (I' := md_I Γ mb W ρ) (fun H1 h1 => by rw [h1]; exact hH) ?_
  refine mw_steps X 2 (pc' := 3) (lv' := [(4, .int (nI 0)), (0, .ref mb), (1, .int (nI e)), (2, .int (nI wh)), (3, .int v)]) (st' := []) rfl ?_
  refine mw_wf (fun t => n - t) (fun t => t ≤ n ∧ ∀ j, j < t → ¬ (W (507 + 5 * j) = nI e ∧ W (507 + 5 * j + wh) = v)) (fun _ => md_I Γ mb W ρ) (fun t => [(4, .int (nI t)), (0, .ref mb), (1, .int (nI e)), (2, .int (nI wh)), (3, .int v)]) (fun t ht ih => ?_) 0 ⟨Nat.zero_le _, fun j hj => absurd hj (Nat.not_lt_zero j)⟩
  obtain ⟨ht, hno⟩ := ht
  refine mw_steps X 2 (pc' := 6) (lv' := [(4, .int (nI t)), (0, .ref mb), (1, .int (nI e)), (2, .int (nI wh)), (3, .int v)]) (st' := [.ref mb, .int (nI t)]) rfl ?_
  refine mw_get X kf_X5_7.fl kc_5 rfl (v := .ref (mb + 1)) (fun H h => ⟨_, h.1, rfl⟩) ?_
  refine mw_steps X 1 (pc' := 11) (lv' := [(4, .int (nI t)), (0, .ref mb), (1, .int (nI e)), (2, .int (nI wh)), (3, .int v)]) (st' := [.int (nI 13), .ref (mb + 1), .int (nI t)]) rfl ?_
  refine mw_iald X (v := nI n) (13) rfl rfl (fun H h => ⟨_, _, h.2.1, by omega, by decide, hn⟩) ?_
  refine mw_icmp_ge X 60 rfl rfl (fun c12 => ?_) (fun c12 => ?_)
  · have htn : t = n := by rw [nI_leI (by omega) (by omega)] at c12; omega
    refine mw_steps X 1 (pc' := 61) (lv' := [(4, .int (nI t)), (0, .ref mb), (1, .int (nI e)), (2, .int (nI wh)), (3, .int v)]) (st' := [.int (-1)]) rfl ?_
    exact mw_iret X rfl rfl (fun H h => ⟨congrArg (fun z => some (Value.int z)) (by subst htn; unfold mo_ix; rw [ml_fa_none hn hn2 hno, if_neg (by omega)]), h⟩)
  · have htn : t < n := by rw [nI_leI (by omega) (by omega)] at c12; omega
    refine mw_steps X 1 (pc' := 16) (lv' := [(4, .int (nI t)), (0, .ref mb), (1, .int (nI e)), (2, .int (nI wh)), (3, .int v)]) (st' := [.ref mb]) rfl ?_
    refine mw_get X kf_X5_7.fl kc_5 rfl (v := .ref (mb + 1)) (fun H h => ⟨_, h.1, rfl⟩) ?_
    refine mw_steps X 5 (pc' := 27) (lv' := [(4, .int (nI t)), (0, .ref mb), (1, .int (nI e)), (2, .int (nI wh)), (3, .int v)]) (st' := [.int ((nI 507) + ((nI 5) * (nI t))), .ref (mb + 1)]) rfl ?_
    refine mw_iald X (v := W (507 + 5 * t)) (507 + 5 * t) (by simp only [nI_add, pk_mul]) rfl (fun H h => ⟨_, _, h.2.1, by omega, by decide, rfl⟩) ?_
    refine mw_steps X 1 (pc' := 29) (lv' := [(4, .int (nI t)), (0, .ref mb), (1, .int (nI e)), (2, .int (nI wh)), (3, .int v)]) (st' := [.int (nI e), .int (W (507 + 5 * t))]) rfl ?_
    refine mw_icmp_ne X 54 rfl rfl (fun c29 => ?_) (fun c29 => ?_)
    · refine mw_steps X 2 (pc' := 3) (lv' := [(4, .int ((nI t) + (nI 1))), (0, .ref mb), (1, .int (nI e)), (2, .int (nI wh)), (3, .int v)]) (st' := []) rfl ?_
      refine mw_lveq (lv' := [(4, .int (nI (t + 1))), (0, .ref mb), (1, .int (nI e)), (2, .int (nI wh)), (3, .int v)]) (by simp only [nI_add]) ?_
      exact ih (t + 1) ⟨by omega, ml_succ hno (by first | exact fun q => c29 q.1 | exact fun q => c48 q.2)⟩ (by omega)
    · refine mw_steps X 1 (pc' := 33) (lv' := [(4, .int (nI t)), (0, .ref mb), (1, .int (nI e)), (2, .int (nI wh)), (3, .int v)]) (st' := [.ref mb]) rfl ?_
      refine mw_get X kf_X5_7.fl kc_5 rfl (v := .ref (mb + 1)) (fun H h => ⟨_, h.1, rfl⟩) ?_
      refine mw_steps X 7 (pc' := 46) (lv' := [(4, .int (nI t)), (0, .ref mb), (1, .int (nI e)), (2, .int (nI wh)), (3, .int v)]) (st' := [.int (((nI 507) + ((nI 5) * (nI t))) + (nI wh)), .ref (mb + 1)]) rfl ?_
      refine mw_iald X (v := W (507 + 5 * t + wh)) (507 + 5 * t + wh) (by simp only [nI_add, pk_mul]) rfl (fun H h => ⟨_, _, h.2.1, by omega, by decide, rfl⟩) ?_
      refine mw_steps X 1 (pc' := 48) (lv' := [(4, .int (nI t)), (0, .ref mb), (1, .int (nI e)), (2, .int (nI wh)), (3, .int v)]) (st' := [.int v, .int (W (507 + 5 * t + wh))]) rfl ?_
      refine mw_icmp_ne X 54 rfl rfl (fun c48 => ?_) (fun c48 => ?_)
      · refine mw_steps X 2 (pc' := 3) (lv' := [(4, .int ((nI t) + (nI 1))), (0, .ref mb), (1, .int (nI e)), (2, .int (nI wh)), (3, .int v)]) (st' := []) rfl ?_
        refine mw_lveq (lv' := [(4, .int (nI (t + 1))), (0, .ref mb), (1, .int (nI e)), (2, .int (nI wh)), (3, .int v)]) (by simp only [nI_add]) ?_
        exact ih (t + 1) ⟨by omega, ml_succ hno (by first | exact fun q => c29 q.1 | exact fun q => c48 q.2)⟩ (by omega)
      · refine mw_steps X 1 (pc' := 53) (lv' := [(4, .int (nI t)), (0, .ref mb), (1, .int (nI e)), (2, .int (nI wh)), (3, .int v)]) (st' := [.int (nI t)]) rfl ?_
        exact mw_iret X rfl rfl (fun H h => ⟨congrArg (fun z => some (Value.int z)) (by unfold mo_ix; rw [ml_fa_is hn hn2 htn c29 c48 hno, if_pos htn]), h⟩)
set_option maxHeartbeats 4000000 in
set_option maxRecDepth 20000 in
theorem cm_once {l : Launch} {Γ : mw_C} {mb : Nat} (hmb : Γ.2.2.2 ≤ mb) {W : Nat → Int32} {ρ : md_R} {H : Heap} {p c : Nat} (hH : md_I Γ mb W ρ H) (hv : iv c W) (hp : p < 5) : mw_Cr l Γ mX5_challengeOnce 5 0 0 (md_A mb) [.ref mb, .int (nI p)] H none (md_I Γ mb (mo_once W p) ρ) := by
  have hn := ml_i13 hv.1
  have hn2 := ml_n6 hv.1
  refine mw_ofG (P := pX5_challengeOnce) (by decide) (md_As hmb) oX5_challengeOnce (Nat.le_of_ble_eq_true rfl) ?_
  intro pg e0 sg mg below meth cd X hs
  refine mw_pre (I' := md_I Γ mb W ρ) (fun H1 h1 => by rw [h1]; exact hH) ?_
  refine mw_steps X 1 (pc' := 1) (lv' := [(0, .ref mb), (1, .int (nI p))]) (st' := [.ref mb]) rfl ?_
  refine mw_get X kf_X5_7.fl kc_5 rfl (v := .ref (mb + 1)) (fun H h => ⟨_, h.1, rfl⟩) ?_
  refine mw_steps X 3 (pc' := 8) (lv' := [(0, .ref mb), (1, .int (nI p))]) (st' := [.int ((nI 32) + (nI p)), .ref (mb + 1)]) rfl ?_
  refine mw_iald X (v := W (32 + p)) (32 + p) (by simp only [nI_add, pk_mul]) rfl (fun H h => ⟨_, _, h.2.1, by omega, by decide, rfl⟩) ?_
  refine mw_if_ne X 28 rfl rfl (fun c9 => ?_) (fun c9 => ?_)
  · exact mw_vret X rfl rfl (fun H h => ⟨rfl, by rw [show mo_once W p = W from by first | exact ml_once_f1 c9 | exact ml_once_f2 ((ml_ix_ge (by omega)).mp c19)]; exact h⟩)
  · refine mw_steps X 4 (pc' := 16) (lv' := [(0, .ref mb), (1, .int (nI p))]) (st' := [.int (nI p), .int (nI 2), .int (nI 1), .ref mb]) rfl ?_
    refine mw_cV3r X kd_X5_findAsked kv_X5_findAsked kl_X5_50 (ci := 5) rfl rfl (Nat.le_of_ble_eq_true rfl) ⟨Nat.le_of_ble_eq_true rfl, Nat.le_of_ble_eq_true rfl⟩ ⟨Nat.le_of_ble_eq_true rfl, Nat.le_of_ble_eq_true rfl⟩ (fun _ h => h) (fun H h => ⟨⟨_, h.1⟩, cm_fa hmb h (e := 1) (wh := 2) hn hn2 (by omega)⟩) ?_
    refine mw_if_ge X 28 rfl rfl (fun c19 => ?_) (fun c19 => ?_)
    · exact mw_vret X rfl rfl (fun H h => ⟨rfl, by rw [show mo_once W p = W from by first | exact ml_once_f1 c9 | exact ml_once_f2 ((ml_ix_ge (by omega)).mp c19)]; exact h⟩)
    · refine mw_steps X 3 (pc' := 25) (lv' := [(0, .ref mb), (1, .int (nI p))]) (st' := [.int (nI p), .int (nI 1), .ref mb]) rfl ?_
      refine mw_cV2v X kd_X5_challengeNow kv_X5_challengeNow kl_X5_54 (ci := 5) rfl rfl (Nat.le_of_ble_eq_true rfl) ⟨Nat.le_of_ble_eq_true rfl, Nat.le_of_ble_eq_true rfl⟩ ⟨Nat.le_of_ble_eq_true rfl, Nat.le_of_ble_eq_true rfl⟩ (fun _ h => h) (fun H h => ⟨⟨_, h.1⟩, cm_challenge hmb h (e := 1) hv (by omega) hp⟩) ?_
      exact mw_vret X rfl rfl (fun H h => ⟨rfl, by rw [show mo_once W p = mo_challenge W 1 p from by exact ml_once_t c9 (fun q => c19 ((ml_ix_ge (by omega)).mpr q))]; exact h⟩)
set_option maxHeartbeats 4000000 in
set_option maxRecDepth 20000 in
theorem cm_took {l : Launch} {Γ : mw_C} {mb : Nat} (hmb : Γ.2.2.2 ≤ mb) {W : Nat → Int32} {ρ : md_R} {H : Heap} {e y : Nat} (hH : md_I Γ mb W ρ H) (he : e < 2) (hy : y < 32768) : mw_Cr l Γ mX5_took 1 0 0 (md_A mb) [.ref mb, .int (nI e), .int (nI y)] H (some (.int (mo_b (mo_bit W e y)))) (md_I Γ mb W ρ) := by
  refine mw_ofG (P := pX5_took) (by decide) (md_As hmb) oX5_took (Nat.le_of_ble_eq_true rfl) ?_
  intro pg e0 sg mg below meth cd X hs
  refine mw_pre (I' := md_I Γ mb W ρ) (fun H1 h1 => by rw [h1]; exact hH) ?_
  refine mw_steps X 1 (pc' := 1) (lv' := [(0, .ref mb), (1, .int (nI e)), (2, .int (nI y))]) (st' := [.ref mb]) rfl ?_
  refine mw_get X kf_X5_7.fl kc_5 rfl (v := .ref (mb + 1)) (fun H h => ⟨_, h.1, rfl⟩) ?_
  refine mw_steps X 7 (pc' := 16) (lv' := [(0, .ref mb), (1, .int (nI e)), (2, .int (nI y))]) (st' := [.int (nI 32), .int (nI y), .int ((nI 537) + ((nI 1300) * (nI e))), .ref (mb + 1)]) rfl ?_
  refine mw_idiv X (by decide) rfl ?_
  refine mw_top (y := nI (y / 32)) (pk_div (by omega) (by decide) (by decide)) ?_
  refine mw_steps X 1 (pc' := 18) (lv' := [(0, .ref mb), (1, .int (nI e)), (2, .int (nI y))]) (st' := [.int (((nI 537) + ((nI 1300) * (nI e))) + (nI (y / 32))), .ref (mb + 1)]) rfl ?_
  refine mw_iald X (v := W (537 + 1300 * e + y / 32)) (537 + 1300 * e + y / 32) (by simp only [nI_add, pk_mul]) rfl (fun H h => ⟨_, _, h.2.1, by omega, by decide, rfl⟩) ?_
  refine mw_steps X 2 (pc' := 22) (lv' := [(0, .ref mb), (1, .int (nI e)), (2, .int (nI y))]) (st' := [.int (nI 32), .int (nI y), .int (W (537 + 1300 * e + y / 32))]) rfl ?_
  refine mw_irem X (by decide) rfl ?_
  refine mw_top (y := nI (y % 32)) (pk_rem (by omega) (by decide) (by decide)) ?_
  refine mw_steps X 4 (pc' := 27) (lv' := [(0, .ref mb), (1, .int (nI e)), (2, .int (nI y))]) (st' := [.int (nI 1), .int (((W (537 + 1300 * e + y / 32)) >>> ((nI (y % 32)) &&& 31)) &&& (nI 1))]) rfl ?_
  refine mw_icmp_ne X 34 rfl rfl (fun c27 => ?_) (fun c27 => ?_)
  · refine mw_steps X 1 (pc' := 35) (lv' := [(0, .ref mb), (1, .int (nI e)), (2, .int (nI y))]) (st' := [.int (nI 0)]) rfl ?_
    exact mw_zret X rfl (by decide) rfl (fun H h => ⟨congrArg (fun z => some (Value.int z)) (by rw [show mo_bit W e y = false from Bool.eq_false_iff.mpr (fun q => c27 ((mb_get _ (by omega)).mpr q))]; rfl), h⟩)
  · refine mw_steps X 2 (pc' := 35) (lv' := [(0, .ref mb), (1, .int (nI e)), (2, .int (nI y))]) (st' := [.int (nI 1)]) rfl ?_
    exact mw_zret X rfl (by decide) rfl (fun H h => ⟨congrArg (fun z => some (Value.int z)) (by rw [show mo_bit W e y = true from (mb_get _ (by omega)).mp c27]; rfl), h⟩)
set_option maxHeartbeats 4000000 in
set_option maxRecDepth 20000 in
theorem cm_note {l : Launch} {Γ : mw_C} {mb : Nat} (hmb : Γ.2.2.2 ≤ mb) {W : Nat → Int32} {ρ : md_R} {H : Heap} {e y : Nat} (hH : md_I Γ mb W ρ H) (he : e < 2) (hy : y < 32768) : mw_Cr l Γ mX5_note 1 0 0 (md_A mb) [.ref mb, .int (nI e), .int (nI y)] H none (md_I Γ mb (mo_note W e y) ρ) := by
  refine mw_ofG (P := pX5_note) (by decide) (md_As hmb) oX5_note (Nat.le_of_ble_eq_true rfl) ?_
  intro pg e0 sg mg below meth cd X hs
  refine mw_pre (I' := md_I Γ mb W ρ) (fun H1 h1 => by rw [h1]; exact hH) ?_
  refine mw_steps X 1 (pc' := 1) (lv' := [(0, .ref mb), (1, .int (nI e)), (2, .int (nI y))]) (st' := [.ref mb]) rfl ?_
  refine mw_get X kf_X5_7.fl kc_5 rfl (v := .ref (mb + 1)) (fun H h => ⟨_, h.1, rfl⟩) ?_
  refine mw_steps X 7 (pc' := 16) (lv' := [(0, .ref mb), (1, .int (nI e)), (2, .int (nI y))]) (st' := [.int (nI 32), .int (nI y), .int ((nI 537) + ((nI 1300) * (nI e))), .ref (mb + 1)]) rfl ?_
  refine mw_idiv X (by decide) rfl ?_
  refine mw_top (y := nI (y / 32)) (pk_div (by omega) (by decide) (by decide)) ?_
  refine mw_steps X 2 (pc' := 19) (lv' := [(0, .ref mb), (1, .int (nI e)), (2, .int (nI y))]) (st' := [.int (((nI 537) + ((nI 1300) * (nI e))) + (nI (y / 32))), .ref (mb + 1), .int (((nI 537) + ((nI 1300) * (nI e))) + (nI (y / 32))), .ref (mb + 1)]) rfl ?_
  refine mw_iald X (v := W (537 + 1300 * e + y / 32)) (537 + 1300 * e + y / 32) (by simp only [nI_add, pk_mul]) rfl (fun H h => ⟨_, _, h.2.1, by omega, by decide, rfl⟩) ?_
  refine mw_steps X 3 (pc' := 24) (lv' := [(0, .ref mb), (1, .int (nI e)), (2, .int (nI y))]) (st' := [.int (nI 32), .int (nI y), .int (nI 1), .int (W (537 + 1300 * e + y / 32)), .int (((nI 537) + ((nI 1300) * (nI e))) + (nI (y / 32))), .ref (mb + 1)]) rfl ?_
  refine mw_irem X (by decide) rfl ?_
  refine mw_top (y := nI (y % 32)) (pk_rem (by omega) (by decide) (by decide)) ?_
  refine mw_steps X 2 (pc' := 27) (lv' := [(0, .ref mb), (1, .int (nI e)), (2, .int (nI y))]) (st' := [.int ((W (537 + 1300 * e + y / 32)) ||| ((nI 1) <<< ((nI (y % 32)) &&& 31))), .int (((nI 537) + ((nI 1300) * (nI e))) + (nI (y / 32))), .ref (mb + 1)]) rfl ?_
  refine mw_iast X (I1 := md_I Γ mb (upd W (537 + 1300 * e + y / 32) ((W (537 + 1300 * e + y / 32)) ||| ((nI 1) <<< ((nI (y % 32)) &&& 31)))) ρ) (537 + 1300 * e + y / 32) (by simp only [nI_add, pk_mul]) rfl (fun H h => ⟨md_A1, _, _, h.2.1, by omega, by decide, fun H1 o c => h.stw o c⟩) ?_
  exact mw_vret X rfl rfl (fun H h => ⟨rfl, by rw [show mo_note W e y = upd W (537 + 1300 * e + y / 32) ((W (537 + 1300 * e + y / 32)) ||| ((nI 1) <<< ((nI (y % 32)) &&& 31))) from by rfl]; exact h⟩)
set_option maxHeartbeats 4000000 in
set_option maxRecDepth 20000 in
theorem cm_inRow {l : Launch} {Γ : mw_C} {mb : Nat} (hmb : Γ.2.2.2 ≤ mb) {W : Nat → Int32} {ρ : md_R} {H : Heap} {e : Nat} (hH : md_I Γ mb W ρ H) (he : e < 2) : mw_Cr l Γ mX5_inRow 1 0 0 (md_A mb) [.ref mb, .int (nI e)] H (some (.int (nI (mo_row W e)))) (md_I Γ mb W ρ) := by
  refine mw_ofG (P := pX5_inRow) (by decide) (md_As hmb) oX5_inRow (Nat.le_of_ble_eq_true rfl) ?_
  intro pg e0 sg mg below meth cd X hs
  refine mw_pre (I' := md_I Γ mb W ρ) (fun H1 h1 => by rw [h1]; exact hH) ?_
  refine mw_steps X 2 (pc' := 2) (lv' := [(2, .int (nI 0)), (0, .ref mb), (1, .int (nI e))]) (st' := []) rfl ?_
  refine mw_wf (fun t => 100 - t) (fun t => t ≤ 100 ∧ ∀ j, j < t → W (127 + 100 * e + j) = nI 1) (fun _ => md_I Γ mb W ρ) (fun t => [(2, .int (nI t)), (0, .ref mb), (1, .int (nI e))]) (fun t ht ih => ?_) 0 ⟨Nat.zero_le _, fun j hj => absurd hj (Nat.not_lt_zero j)⟩
  obtain ⟨ht, hno⟩ := ht
  refine mw_steps X 2 (pc' := 5) (lv' := [(2, .int (nI t)), (0, .ref mb), (1, .int (nI e))]) (st' := [.int (nI 100), .int (nI t)]) rfl ?_
  refine mw_icmp_ge X 32 rfl rfl (fun c5 => ?_) (fun c5 => ?_)
  · have htn : t = 100 := by rw [nI_leI (by omega) (by omega)] at c5; omega
    refine mw_steps X 1 (pc' := 33) (lv' := [(2, .int (nI t)), (0, .ref mb), (1, .int (nI e))]) (st' := [.int (nI t)]) rfl ?_
    exact mw_iret X rfl rfl (fun H h => ⟨congrArg (fun z => some (Value.int z)) (by first | rw [ml_row_is htn c23 hno] | (subst htn; rw [ml_row_all hno])), h⟩)
  · have htn : t < 100 := by rw [nI_leI (by omega) (by omega)] at c5; omega
    refine mw_steps X 1 (pc' := 9) (lv' := [(2, .int (nI t)), (0, .ref mb), (1, .int (nI e))]) (st' := [.ref mb]) rfl ?_
    refine mw_get X kf_X5_7.fl kc_5 rfl (v := .ref (mb + 1)) (fun H h => ⟨_, h.1, rfl⟩) ?_
    refine mw_steps X 7 (pc' := 21) (lv' := [(2, .int (nI t)), (0, .ref mb), (1, .int (nI e))]) (st' := [.int (((nI 127) + ((nI 100) * (nI e))) + (nI t)), .ref (mb + 1)]) rfl ?_
    refine mw_iald X (v := W (127 + 100 * e + t)) (127 + 100 * e + t) (by simp only [nI_add, pk_mul]) rfl (fun H h => ⟨_, _, h.2.1, by omega, by decide, rfl⟩) ?_
    refine mw_steps X 1 (pc' := 23) (lv' := [(2, .int (nI t)), (0, .ref mb), (1, .int (nI e))]) (st' := [.int (nI 1), .int (W (127 + 100 * e + t))]) rfl ?_
    refine mw_icmp_ne X 32 rfl rfl (fun c23 => ?_) (fun c23 => ?_)
    · refine mw_steps X 1 (pc' := 33) (lv' := [(2, .int (nI t)), (0, .ref mb), (1, .int (nI e))]) (st' := [.int (nI t)]) rfl ?_
      exact mw_iret X rfl rfl (fun H h => ⟨congrArg (fun z => some (Value.int z)) (by first | rw [ml_row_is htn c23 hno] | (subst htn; rw [ml_row_all hno])), h⟩)
    · refine mw_steps X 2 (pc' := 2) (lv' := [(2, .int ((nI t) + (nI 1))), (0, .ref mb), (1, .int (nI e))]) (st' := []) rfl ?_
      refine mw_lveq (lv' := [(2, .int (nI (t + 1))), (0, .ref mb), (1, .int (nI e))]) (by simp only [nI_add]) ?_
      exact ih (t + 1) ⟨by omega, ml_succ hno c23⟩ (by omega)
set_option maxHeartbeats 4000000 in
set_option maxRecDepth 20000 in
theorem cm_heard {l : Launch} {Γ : mw_C} {mb : Nat} (hmb : Γ.2.2.2 ≤ mb) {W : Nat → Int32} {ρ : md_R} {H : Heap} {e c : Nat} {v : Int32} (hH : md_I Γ mb W ρ H) (hv : iv c W) (he : e < 2) : mw_Cr l Γ mX5_word 4 0 0 (md_A mb) [.ref mb, .int (nI e), .int v, .int (nI 0)] H none (md_I Γ mb (mo_heard W e) ρ) := by
  obtain ⟨-, -, ⟨cu, hcu5, hcu⟩, -⟩ := hv.2.2.2.2.2.2.2.1 e he
  refine mw_ofG (P := pX5_word) (by decide) (md_As hmb) oX5_word (Nat.le_of_ble_eq_true rfl) ?_
  intro pg e0 sg mg below meth cd X hs
  refine mw_pre (I' := md_I Γ mb W ρ) (fun H1 h1 => by rw [h1]; exact hH) ?_
  refine mw_steps X 1 (pc' := 1) (lv' := [(0, .ref mb), (1, .int (nI e)), (2, .int v), (3, .int (nI 0))]) (st' := [.int (nI 0)]) rfl ?_
  refine mw_if_eq X 19 rfl rfl (fun c1 => ?_) (fun c1 => absurd (by decide) c1)
  refine mw_steps X 3 (pc' := 22) (lv' := [(0, .ref mb), (1, .int (nI e)), (2, .int v), (3, .int (nI 0))]) (st' := [.ref mb, .int (nI e), .ref mb]) rfl ?_
  refine mw_get X kf_X5_7.fl kc_5 rfl (v := .ref (mb + 1)) (fun H h => ⟨_, h.1, rfl⟩) ?_
  refine mw_steps X 3 (pc' := 28) (lv' := [(0, .ref mb), (1, .int (nI e)), (2, .int v), (3, .int (nI 0))]) (st' := [.int ((nI 2) + (nI e)), .ref (mb + 1), .int (nI e), .ref mb]) rfl ?_
  refine mw_iald X (v := nI cu) (2 + e) (by simp only [nI_add, pk_mul]) rfl (fun H h => ⟨_, _, h.2.1, by omega, by decide, hcu⟩) ?_
  refine mw_steps X 3 (pc' := 32) (lv' := [(0, .ref mb), (1, .int (nI e)), (2, .int v), (3, .int (nI 0))]) (st' := [.int (nI e), .ref mb, .int (nI 5), .int (nI cu), .int (nI e), .ref mb]) rfl ?_
  refine mw_cV1r X kd_X5_inRow kv_X5_inRow kl_X5_58 (ci := 5) rfl rfl (Nat.le_of_ble_eq_true rfl) ⟨Nat.le_of_ble_eq_true rfl, Nat.le_of_ble_eq_true rfl⟩ ⟨Nat.le_of_ble_eq_true rfl, Nat.le_of_ble_eq_true rfl⟩ (fun _ h => h) (fun H h => ⟨⟨_, h.1⟩, cm_inRow hmb h he⟩) ?_
  refine mw_cV4v X kd_X5_goes kv_X5_goes kl_X5_47 (ci := 5) rfl rfl (Nat.le_of_ble_eq_true rfl) ⟨Nat.le_of_ble_eq_true rfl, Nat.le_of_ble_eq_true rfl⟩ ⟨Nat.le_of_ble_eq_true rfl, Nat.le_of_ble_eq_true rfl⟩ (fun _ h => h) (fun H h => ⟨⟨_, h.1⟩, cm_goes hmb h hv.1 he hcu5 (by omega)⟩) ?_
  exact mw_vret X rfl rfl (fun H h => ⟨rfl, by rw [show mo_heard W e = mo_goes W e cu 5 (nI (mo_row W e)) from by unfold mo_heard; rw [hcu, ml_n (by omega)]]; exact h⟩)
set_option maxHeartbeats 4000000 in
set_option maxRecDepth 20000 in
theorem cm_word {l : Launch} {Γ : mw_C} {mb : Nat} (hmb : Γ.2.2.2 ≤ mb) {W : Nat → Int32} {ρ : md_R} {H : Heap} {e c : Nat} {v : Nat} (hH : md_I Γ mb W ρ H) (hv : iv c W) (he : e < 2) (hvv : v < 100) : mw_Cr l Γ mX5_word 4 0 0 (md_A mb) [.ref mb, .int (nI e), .int (nI v), .int (nI 1)] H none (md_I Γ mb (mo_word W e v) ρ) := by
  obtain ⟨-, -, ⟨cu, hcu5, hcu⟩, -⟩ := hv.2.2.2.2.2.2.2.1 e he
  refine mw_ofG (P := pX5_word) (by decide) (md_As hmb) oX5_word (Nat.le_of_ble_eq_true rfl) ?_
  intro pg e0 sg mg below meth cd X hs
  refine mw_pre (I' := md_I Γ mb W ρ) (fun H1 h1 => by rw [h1]; exact hH) ?_
  refine mw_steps X 1 (pc' := 1) (lv' := [(0, .ref mb), (1, .int (nI e)), (2, .int (nI v)), (3, .int (nI 1))]) (st' := [.int (nI 1)]) rfl ?_
  refine mw_if_eq X 19 rfl rfl (fun c1 => absurd c1 (by decide)) (fun c1 => ?_)
  refine mw_steps X 1 (pc' := 5) (lv' := [(0, .ref mb), (1, .int (nI e)), (2, .int (nI v)), (3, .int (nI 1))]) (st' := [.ref mb]) rfl ?_
  refine mw_get X kf_X5_7.fl kc_5 rfl (v := .ref (mb + 1)) (fun H h => ⟨_, h.1, rfl⟩) ?_
  refine mw_steps X 8 (pc' := 18) (lv' := [(0, .ref mb), (1, .int (nI e)), (2, .int (nI v)), (3, .int (nI 1))]) (st' := [.int (nI 1), .int (((nI 127) + ((nI 100) * (nI e))) + (nI v)), .ref (mb + 1)]) rfl ?_
  refine mw_iast X (I1 := md_I Γ mb (upd W (127 + 100 * e + v) (nI 1)) ρ) (127 + 100 * e + v) (by simp only [nI_add, pk_mul]) rfl (fun H h => ⟨md_A1, _, _, h.2.1, by omega, by decide, fun H1 o c => h.stw o c⟩) ?_
  refine mw_steps X 3 (pc' := 22) (lv' := [(0, .ref mb), (1, .int (nI e)), (2, .int (nI v)), (3, .int (nI 1))]) (st' := [.ref mb, .int (nI e), .ref mb]) rfl ?_
  refine mw_get X kf_X5_7.fl kc_5 rfl (v := .ref (mb + 1)) (fun H h => ⟨_, h.1, rfl⟩) ?_
  refine mw_steps X 3 (pc' := 28) (lv' := [(0, .ref mb), (1, .int (nI e)), (2, .int (nI v)), (3, .int (nI 1))]) (st' := [.int ((nI 2) + (nI e)), .ref (mb + 1), .int (nI e), .ref mb]) rfl ?_
  refine mw_iald X (v := nI cu) (2 + e) (by simp only [nI_add, pk_mul]) rfl (fun H h => ⟨_, _, h.2.1, by omega, by decide, (by simp (disch := omega) only [pk_un]; exact hcu)⟩) ?_
  refine mw_steps X 3 (pc' := 32) (lv' := [(0, .ref mb), (1, .int (nI e)), (2, .int (nI v)), (3, .int (nI 1))]) (st' := [.int (nI e), .ref mb, .int (nI 5), .int (nI cu), .int (nI e), .ref mb]) rfl ?_
  refine mw_cV1r X kd_X5_inRow kv_X5_inRow kl_X5_58 (ci := 5) rfl rfl (Nat.le_of_ble_eq_true rfl) ⟨Nat.le_of_ble_eq_true rfl, Nat.le_of_ble_eq_true rfl⟩ ⟨Nat.le_of_ble_eq_true rfl, Nat.le_of_ble_eq_true rfl⟩ (fun _ h => h) (fun H h => ⟨⟨_, h.1⟩, cm_inRow hmb h he⟩) ?_
  refine mw_cV4v X kd_X5_goes kv_X5_goes kl_X5_47 (ci := 5) rfl rfl (Nat.le_of_ble_eq_true rfl) ⟨Nat.le_of_ble_eq_true rfl, Nat.le_of_ble_eq_true rfl⟩ ⟨Nat.le_of_ble_eq_true rfl, Nat.le_of_ble_eq_true rfl⟩ (fun _ h => h) (fun H h => ⟨⟨_, h.1⟩, cm_goes hmb h (iv_has hv he hvv).1 he hcu5 (by omega)⟩) ?_
  exact mw_vret X rfl rfl (fun H h => ⟨rfl, by rw [show mo_word W e v = mo_goes (upd W (127 + 100 * e + v) (nI 1)) e cu 5 (nI (mo_row (upd W (127 + 100 * e + v) (nI 1)) e)) from by unfold mo_word mo_heard; rw [pk_un (by omega), hcu, ml_n (by omega)]]; exact h⟩)
set_option maxHeartbeats 4000000 in
set_option maxRecDepth 20000 in
theorem cm_confirm {l : Launch} {Γ : mw_C} {mb : Nat} (hmb : Γ.2.2.2 ≤ mb) {W : Nat → Int32} {ρ : md_R} {H : Heap} {e : Nat} {x : Int32} (hH : md_I Γ mb W ρ H) (he : e < 2) : mw_Cr l Γ mX5_confirm 1 0 0 (md_A mb) [.ref mb, .int (nI e), .int x] H none (md_I Γ mb (mo_confirm W e x) ρ) := by
  refine mw_ofG (P := pX5_confirm) (by decide) (md_As hmb) oX5_confirm (Nat.le_of_ble_eq_true rfl) ?_
  intro pg e0 sg mg below meth cd X hs
  refine mw_pre (I' := md_I Γ mb W ρ) (fun H1 h1 => by rw [h1]; exact hH) ?_
  refine mw_steps X 1 (pc' := 1) (lv' := [(0, .ref mb), (1, .int (nI e)), (2, .int x)]) (st' := [.ref mb]) rfl ?_
  refine mw_get X kf_X5_7.fl kc_5 rfl (v := .ref (mb + 1)) (fun H h => ⟨_, h.1, rfl⟩) ?_
  refine mw_steps X 5 (pc' := 10) (lv' := [(0, .ref mb), (1, .int (nI e)), (2, .int x)]) (st' := [.ref mb, .int x, .int ((nI 20) + (nI e)), .ref (mb + 1)]) rfl ?_
  refine mw_get X kf_X5_7.fl kc_5 rfl (v := .ref (mb + 1)) (fun H h => ⟨_, h.1, rfl⟩) ?_
  refine mw_steps X 3 (pc' := 17) (lv' := [(0, .ref mb), (1, .int (nI e)), (2, .int x)]) (st' := [.int ((nI 20) + (nI e)), .ref (mb + 1), .int x, .int ((nI 20) + (nI e)), .ref (mb + 1)]) rfl ?_
  refine mw_iald X (v := W (20 + e)) (20 + e) (by simp only [nI_add, pk_mul]) rfl (fun H h => ⟨_, _, h.2.1, by omega, by decide, rfl⟩) ?_
  refine mw_icmp_le X 25 rfl rfl (fun c18 => ?_) (fun c18 => ?_)
  · refine mw_steps X 1 (pc' := 26) (lv' := [(0, .ref mb), (1, .int (nI e)), (2, .int x)]) (st' := [.ref mb, .int ((nI 20) + (nI e)), .ref (mb + 1)]) rfl ?_
    refine mw_get X kf_X5_7.fl kc_5 rfl (v := .ref (mb + 1)) (fun H h => ⟨_, h.1, rfl⟩) ?_
    refine mw_steps X 3 (pc' := 33) (lv' := [(0, .ref mb), (1, .int (nI e)), (2, .int x)]) (st' := [.int ((nI 20) + (nI e)), .ref (mb + 1), .int ((nI 20) + (nI e)), .ref (mb + 1)]) rfl ?_
    refine mw_iald X (v := W (20 + e)) (20 + e) (by simp only [nI_add, pk_mul]) rfl (fun H h => ⟨_, _, h.2.1, by omega, by decide, rfl⟩) ?_
    refine mw_iast X (I1 := md_I Γ mb (upd W (20 + e) (W (20 + e))) ρ) (20 + e) (by simp only [nI_add, pk_mul]) rfl (fun H h => ⟨md_A1, _, _, h.2.1, by omega, by decide, fun H1 o c => h.stw o c⟩) ?_
    exact mw_vret X rfl rfl (fun H h => ⟨rfl, by rw [show mo_confirm W e x = upd W (20 + e) (W (20 + e)) from by unfold mo_confirm; first | rw [if_neg (Int32.not_lt.mpr c18)] | rw [if_pos (Int32.not_le.mp c18)]]; exact h⟩)
  · refine mw_steps X 2 (pc' := 34) (lv' := [(0, .ref mb), (1, .int (nI e)), (2, .int x)]) (st' := [.int x, .int ((nI 20) + (nI e)), .ref (mb + 1)]) rfl ?_
    refine mw_iast X (I1 := md_I Γ mb (upd W (20 + e) x) ρ) (20 + e) (by simp only [nI_add, pk_mul]) rfl (fun H h => ⟨md_A1, _, _, h.2.1, by omega, by decide, fun H1 o c => h.stw o c⟩) ?_
    exact mw_vret X rfl rfl (fun H h => ⟨rfl, by rw [show mo_confirm W e x = upd W (20 + e) x from by unfold mo_confirm; first | rw [if_neg (Int32.not_lt.mpr c18)] | rw [if_pos (Int32.not_le.mp c18)]]; exact h⟩)
set_option maxHeartbeats 4000000 in
set_option maxRecDepth 20000 in
theorem cm_follow {l : Launch} {Γ : mw_C} {mb : Nat} (hmb : Γ.2.2.2 ≤ mb) {W : Nat → Int32} {ρ : md_R} {H : Heap} {p c : Nat} (hH : md_I Γ mb W ρ H) (hv : iv c W) (hp : p < 5) : mw_Cr l Γ mX5_follow 6 0 0 (md_A mb) [.ref mb, .int (nI p)] H none (md_I Γ mb (mo_follow W p) ρ) := by
  obtain ⟨cu, hcu5, hcu⟩ := ml_c3 hv
  refine mw_ofG (P := pX5_follow) (by decide) (md_As hmb) oX5_follow (Nat.le_of_ble_eq_true rfl) ?_
  intro pg e0 sg mg below meth cd X hs
  refine mw_pre (I' := md_I Γ mb W ρ) (fun H1 h1 => by rw [h1]; exact hH) ?_
  refine mw_steps X 1 (pc' := 1) (lv' := [(0, .ref mb), (1, .int (nI p))]) (st' := [.ref mb]) rfl ?_
  refine mw_get X kf_X5_7.fl kc_5 rfl (v := .ref (mb + 1)) (fun H h => ⟨_, h.1, rfl⟩) ?_
  refine mw_steps X 1 (pc' := 5) (lv' := [(0, .ref mb), (1, .int (nI p))]) (st' := [.int (nI 3), .ref (mb + 1)]) rfl ?_
  refine mw_iald X (v := nI cu) (3) rfl rfl (fun H h => ⟨_, _, h.2.1, by omega, by decide, hcu⟩) ?_
  refine mw_steps X 1 (pc' := 7) (lv' := [(0, .ref mb), (1, .int (nI p))]) (st' := [.int (nI p), .int (nI cu)]) rfl ?_
  refine mw_icmp_eq X 58 rfl rfl (fun c7 => ?_) (fun c7 => ?_)
  · exact mw_vret X rfl rfl (fun H h => ⟨rfl, by rw [show mo_follow W p = W from by exact ml_follow_t (by rw [hcu]; exact c7)]; exact h⟩)
  · refine mw_steps X 1 (pc' := 11) (lv' := [(0, .ref mb), (1, .int (nI p))]) (st' := [.ref mb]) rfl ?_
    refine mw_get X kf_X5_7.fl kc_5 rfl (v := .ref (mb + 1)) (fun H h => ⟨_, h.1, rfl⟩) ?_
    refine mw_steps X 1 (pc' := 15) (lv' := [(0, .ref mb), (1, .int (nI p))]) (st' := [.int (nI 3), .ref (mb + 1)]) rfl ?_
    refine mw_iald X (v := nI cu) (3) rfl rfl (fun H h => ⟨_, _, h.2.1, by omega, by decide, hcu⟩) ?_
    refine mw_steps X 2 (pc' := 18) (lv' := [(2, .int (nI cu)), (0, .ref mb), (1, .int (nI p))]) (st' := [.ref mb]) rfl ?_
    refine mw_get X kf_X5_7.fl kc_5 rfl (v := .ref (mb + 1)) (fun H h => ⟨_, h.1, rfl⟩) ?_
    refine mw_steps X 2 (pc' := 23) (lv' := [(2, .int (nI cu)), (0, .ref mb), (1, .int (nI p))]) (st' := [.ref mb, .int (nI 5), .ref (mb + 1)]) rfl ?_
    refine mw_get X kf_X5_7.fl kc_5 rfl (v := .ref (mb + 1)) (fun H h => ⟨_, h.1, rfl⟩) ?_
    refine mw_steps X 3 (pc' := 30) (lv' := [(2, .int (nI cu)), (0, .ref mb), (1, .int (nI p))]) (st' := [.int ((nI 32) + (nI cu)), .ref (mb + 1), .int (nI 5), .ref (mb + 1)]) rfl ?_
    refine mw_iald X (v := W (32 + cu)) (32 + cu) (by simp only [nI_add, pk_mul]) rfl (fun H h => ⟨_, _, h.2.1, by omega, by decide, rfl⟩) ?_
    refine mw_steps X 1 (pc' := 32) (lv' := [(2, .int (nI cu)), (0, .ref mb), (1, .int (nI p))]) (st' := [.int (nI 1), .int (W (32 + cu)), .int (nI 5), .ref (mb + 1)]) rfl ?_
    refine mw_icmp_ne X 39 rfl rfl (fun c32 => ?_) (fun c32 => ?_)
    · refine mw_steps X 1 (pc' := 40) (lv' := [(2, .int (nI cu)), (0, .ref mb), (1, .int (nI p))]) (st' := [.ref mb, .int (nI 5), .ref (mb + 1)]) rfl ?_
      refine mw_get X kf_X5_7.fl kc_5 rfl (v := .ref (mb + 1)) (fun H h => ⟨_, h.1, rfl⟩) ?_
      refine mw_steps X 1 (pc' := 44) (lv' := [(2, .int (nI cu)), (0, .ref mb), (1, .int (nI p))]) (st' := [.int (nI 5), .ref (mb + 1), .int (nI 5), .ref (mb + 1)]) rfl ?_
      refine mw_iald X (v := W (5)) (5) rfl rfl (fun H h => ⟨_, _, h.2.1, by omega, by decide, rfl⟩) ?_
      refine mw_iast X (I1 := md_I Γ mb (upd W (5) (W (5))) ρ) (5) rfl rfl (fun H h => ⟨md_A1, _, _, h.2.1, by omega, by decide, fun H1 o c => h.stw o c⟩) ?_
      refine mw_steps X 1 (pc' := 47) (lv' := [(2, .int (nI cu)), (0, .ref mb), (1, .int (nI p))]) (st' := [.ref mb]) rfl ?_
      refine mw_get X kf_X5_7.fl kc_5 rfl (v := .ref (mb + 1)) (fun H h => ⟨_, h.1, rfl⟩) ?_
      refine mw_steps X 2 (pc' := 52) (lv' := [(2, .int (nI cu)), (0, .ref mb), (1, .int (nI p))]) (st' := [.int (nI p), .int (nI 3), .ref (mb + 1)]) rfl ?_
      refine mw_iast X (I1 := md_I Γ mb (upd (upd W (5) (W (5))) (3) (nI p)) ρ) (3) rfl rfl (fun H h => ⟨md_A1, _, _, h.2.1, by omega, by decide, fun H1 o c => h.stw o c⟩) ?_
      refine mw_steps X 2 (pc' := 55) (lv' := [(2, .int (nI cu)), (0, .ref mb), (1, .int (nI p))]) (st' := [.int (nI p), .ref mb]) rfl ?_
      rw [show upd (upd W (5) (W (5))) (3) (nI p) = mo_fol W p from by unfold mo_fol; rw [hcu, ml_n (by omega)]; first | rw [if_pos c32] | rw [if_neg c32]]
      refine mw_cV1v X kd_X5_challengeOnce kv_X5_challengeOnce kl_X5_61 (ci := 5) rfl rfl (Nat.le_of_ble_eq_true rfl) ⟨Nat.le_of_ble_eq_true rfl, Nat.le_of_ble_eq_true rfl⟩ ⟨Nat.le_of_ble_eq_true rfl, Nat.le_of_ble_eq_true rfl⟩ (fun _ h => h) (fun H h => ⟨⟨_, h.1⟩, cm_once hmb h (iv_fol hv hp) hp⟩) ?_
      exact mw_vret X rfl rfl (fun H h => ⟨rfl, by rw [show mo_follow W p = mo_once (mo_fol W p) p from by exact ml_follow_f (by rw [hcu]; exact c7)]; exact h⟩)
    · refine mw_steps X 2 (pc' := 45) (lv' := [(2, .int (nI cu)), (0, .ref mb), (1, .int (nI p))]) (st' := [.int (nI cu), .int (nI 5), .ref (mb + 1)]) rfl ?_
      refine mw_iast X (I1 := md_I Γ mb (upd W (5) (nI cu)) ρ) (5) rfl rfl (fun H h => ⟨md_A1, _, _, h.2.1, by omega, by decide, fun H1 o c => h.stw o c⟩) ?_
      refine mw_steps X 1 (pc' := 47) (lv' := [(2, .int (nI cu)), (0, .ref mb), (1, .int (nI p))]) (st' := [.ref mb]) rfl ?_
      refine mw_get X kf_X5_7.fl kc_5 rfl (v := .ref (mb + 1)) (fun H h => ⟨_, h.1, rfl⟩) ?_
      refine mw_steps X 2 (pc' := 52) (lv' := [(2, .int (nI cu)), (0, .ref mb), (1, .int (nI p))]) (st' := [.int (nI p), .int (nI 3), .ref (mb + 1)]) rfl ?_
      refine mw_iast X (I1 := md_I Γ mb (upd (upd W (5) (nI cu)) (3) (nI p)) ρ) (3) rfl rfl (fun H h => ⟨md_A1, _, _, h.2.1, by omega, by decide, fun H1 o c => h.stw o c⟩) ?_
      refine mw_steps X 2 (pc' := 55) (lv' := [(2, .int (nI cu)), (0, .ref mb), (1, .int (nI p))]) (st' := [.int (nI p), .ref mb]) rfl ?_
      rw [show upd (upd W (5) (nI cu)) (3) (nI p) = mo_fol W p from by unfold mo_fol; rw [hcu, ml_n (by omega)]; first | rw [if_pos c32] | rw [if_neg c32]]
      refine mw_cV1v X kd_X5_challengeOnce kv_X5_challengeOnce kl_X5_61 (ci := 5) rfl rfl (Nat.le_of_ble_eq_true rfl) ⟨Nat.le_of_ble_eq_true rfl, Nat.le_of_ble_eq_true rfl⟩ ⟨Nat.le_of_ble_eq_true rfl, Nat.le_of_ble_eq_true rfl⟩ (fun _ h => h) (fun H h => ⟨⟨_, h.1⟩, cm_once hmb h (iv_fol hv hp) hp⟩) ?_
      exact mw_vret X rfl rfl (fun H h => ⟨rfl, by rw [show mo_follow W p = mo_once (mo_fol W p) p from by exact ml_follow_f (by rw [hcu]; exact c7)]; exact h⟩)
set_option maxHeartbeats 4000000 in
set_option maxRecDepth 20000 in
theorem cm_prove {l : Launch} {Γ : mw_C} {mb : Nat} (hmb : Γ.2.2.2 ≤ mb) {W : Nat → Int32} {ρ : md_R} {H : Heap} {c : Nat} {x : Int32} (hH : md_I Γ mb W ρ H) (hv : iv (c + 12) W) : mw_Cr l Γ mX5_proveBy 4 0 0 (md_A mb) [.ref mb, .int x] H none (md_I Γ mb (mo_prove W x) ρ) := by
  have hn := ml_i13 hv.1
  have hn2 := ml_n6 hv.1
  refine mw_ofG (P := pX5_proveBy) (by decide) (md_As hmb) oX5_proveBy (Nat.le_of_ble_eq_true rfl) ?_
  intro pg e0 sg mg below meth cd X hs
  refine mw_pre (I' := md_I Γ mb W ρ) (fun H1 h1 => by rw [h1]; exact hH) ?_
  refine mw_steps X 4 (pc' := 4) (lv' := [(0, .ref mb), (1, .int x)]) (st' := [.int x, .int (nI 1), .int (nI 1), .ref mb]) rfl ?_
  refine mw_cV3r X kd_X5_findAsked kv_X5_findAsked kl_X5_50 (ci := 5) rfl rfl (Nat.le_of_ble_eq_true rfl) ⟨Nat.le_of_ble_eq_true rfl, Nat.le_of_ble_eq_true rfl⟩ ⟨Nat.le_of_ble_eq_true rfl, Nat.le_of_ble_eq_true rfl⟩ (fun _ h => h) (fun H h => ⟨⟨_, h.1⟩, cm_fa hmb h (e := 1) (wh := 1) hn hn2 (by omega)⟩) ?_
  refine mw_steps X 1 (pc' := 8) (lv' := [(2, .int (mo_ix (mo_fa W 1 1 x) (mo_n (W 13)))), (0, .ref mb), (1, .int x)]) (st' := []) rfl ?_
  by_cases hf : mo_fa W 1 1 x < mo_n (W 13)
  · obtain ⟨e1, pl, tr, -, hpl, -, -, hpp, -⟩ := hv.2.2.2.2.1 _ hf
    rw [show mo_ix (mo_fa W 1 1 x) (mo_n (W 13)) = nI (mo_fa W 1 1 x) from if_pos hf]
    obtain ⟨k, hk⟩ : ∃ k, k = mo_fa W 1 1 x := ⟨_, rfl⟩
    rw [← hk] at hf hpp ⊢
    refine mw_steps X 1 (pc' := 9) (lv' := [(2, .int (nI k)), (0, .ref mb), (1, .int x)]) (st' := [.int (nI k)]) rfl ?_
    refine mw_if_lt X 53 rfl rfl (fun c9 => absurd c9 (nI_pos (by omega))) (fun c9 => ?_)
    refine mw_steps X 1 (pc' := 13) (lv' := [(2, .int (nI k)), (0, .ref mb), (1, .int x)]) (st' := [.ref mb]) rfl ?_
    refine mw_get X kf_X5_7.fl kc_5 rfl (v := .ref (mb + 1)) (fun H h => ⟨_, h.1, rfl⟩) ?_
    refine mw_steps X 7 (pc' := 25) (lv' := [(2, .int (nI k)), (0, .ref mb), (1, .int x)]) (st' := [.int (((nI 507) + ((nI 5) * (nI k))) + (nI 2)), .ref (mb + 1)]) rfl ?_
    refine mw_iald X (v := nI pl) (507 + 5 * k + 2) (by simp only [nI_add, pk_mul]) rfl (fun H h => ⟨_, _, h.2.1, by omega, by decide, hpp⟩) ?_
    refine mw_steps X 6 (pc' := 35) (lv' := [(3, .int (nI pl)), (2, .int (nI k)), (0, .ref mb), (1, .int x)]) (st' := [.int (nI k), .int (nI 13), .int (nI 5), .int (nI 507), .ref mb]) rfl ?_
    refine mw_cV4v X kd_X5_removeAt kv_X5_removeAt kl_X5_29 (ci := 5) rfl rfl (Nat.le_of_ble_eq_true rfl) ⟨Nat.le_of_ble_eq_true rfl, Nat.le_of_ble_eq_true rfl⟩ ⟨Nat.le_of_ble_eq_true rfl, Nat.le_of_ble_eq_true rfl⟩ (fun _ h => h) (fun H h => ⟨⟨_, h.1⟩, cm_removeAt hmb h (f := 507) (z := 5) (q := 13) hn (by omega) (by omega) (by omega) (by omega) (by omega)⟩) ?_
    refine mw_steps X 1 (pc' := 39) (lv' := [(3, .int (nI pl)), (2, .int (nI k)), (0, .ref mb), (1, .int x)]) (st' := [.ref mb]) rfl ?_
    refine mw_get X kf_X5_7.fl kc_5 rfl (v := .ref (mb + 1)) (fun H h => ⟨_, h.1, rfl⟩) ?_
    refine mw_steps X 4 (pc' := 47) (lv' := [(3, .int (nI pl)), (2, .int (nI k)), (0, .ref mb), (1, .int x)]) (st' := [.int (nI 1), .int ((nI 32) + (nI pl)), .ref (mb + 1)]) rfl ?_
    refine mw_iast X (I1 := md_I Γ mb (upd (mo_rm W 507 5 13 k) (32 + pl) (nI 1)) ρ) (32 + pl) (by simp only [nI_add, pk_mul]) rfl (fun H h => ⟨md_A1, _, _, h.2.1, by omega, by decide, fun H1 o c => h.stw o c⟩) ?_
    refine mw_steps X 2 (pc' := 50) (lv' := [(3, .int (nI pl)), (2, .int (nI k)), (0, .ref mb), (1, .int x)]) (st' := [.int (nI pl), .ref mb]) rfl ?_
    refine mw_cV1v X kd_X5_letOut kv_X5_letOut kl_X5_65 (ci := 5) rfl rfl (Nat.le_of_ble_eq_true rfl) ⟨Nat.le_of_ble_eq_true rfl, Nat.le_of_ble_eq_true rfl⟩ ⟨Nat.le_of_ble_eq_true rfl, Nat.le_of_ble_eq_true rfl⟩ (fun _ h => h) (fun H h => ⟨⟨_, h.1⟩, cm_letOut hmb h (iv_proved (iv_rma hv hf) hpl) hpl⟩) ?_
    exact mw_vret X rfl rfl (fun H h => ⟨rfl, by rw [show mo_prove W x = mo_letOut (upd (mo_rm W 507 5 13 k) (32 + pl) (nI 1)) pl from by exact ml_prove_t hk hf hpp hpl]; exact h⟩)
  · rw [show mo_ix (mo_fa W 1 1 x) (mo_n (W 13)) = -1 from if_neg hf]
    refine mw_steps X 1 (pc' := 9) (lv' := [(2, .int (-1)), (0, .ref mb), (1, .int x)]) (st' := [.int (-1)]) rfl ?_
    refine mw_if_lt X 53 rfl rfl (fun c9 => ?_) (fun c9 => absurd (by decide) c9)
    exact mw_vret X rfl rfl (fun H h => ⟨rfl, by rw [show mo_prove W x = W from by exact ml_prove_f hf]; exact h⟩)
set_option maxHeartbeats 4000000 in
set_option maxRecDepth 20000 in
theorem cm_isLive {l : Launch} {Γ : mw_C} {mb : Nat} (hmb : Γ.2.2.2 ≤ mb) {W : Nat → Int32} {ρ : md_R} {H : Heap} {c : Nat} {x : Int32} (hH : md_I Γ mb W ρ H) (hv : iv c W) : mw_Cr l Γ mX5_isLive 2 0 0 (md_A mb) [.ref mb, .int x] H (some (.int (mo_b (mo_live W x)))) (md_I Γ mb W ρ) := by
  obtain ⟨g, hg2, hg40, hg, -⟩ := hv.2.2.2.2.2.2.1
  have hlive := ml_live_in (x := x) hg (by omega) hg40
  refine mw_ofG (P := pX5_isLive) (by decide) (md_As hmb) oX5_isLive (Nat.le_of_ble_eq_true rfl) ?_
  intro pg e0 sg mg below meth cd X hs
  refine mw_pre (I' := md_I Γ mb W ρ) (fun H1 h1 => by rw [h1]; exact hH) ?_
  refine mw_steps X 4 (pc' := 4) (lv' := [(0, .ref mb), (1, .int x)]) (st' := [.ref mb, .long 0, .long x.toInt64]) rfl ?_
  refine mw_get X kf_X5_7.fl kc_5 rfl (v := .ref (mb + 1)) (fun H h => ⟨_, h.1, rfl⟩) ?_
  refine mw_steps X 1 (pc' := 8) (lv' := [(0, .ref mb), (1, .int x)]) (st' := [.int (nI 1), .ref (mb + 1), .long 0, .long x.toInt64]) rfl ?_
  refine mw_iald X (v := nI g) (1) rfl rfl (fun H h => ⟨_, _, h.2.1, by omega, by decide, hg⟩) ?_
  refine mw_steps X 3 (pc' := 12) (lv' := [(0, .ref mb), (1, .int x)]) (st' := [.long (((nI g) - (nI 1)).toInt64), .long 0, .long x.toInt64]) rfl ?_
  refine mw_cS3r X kd_X5_in ks_X5_in kl_X5_68 rfl (Nat.le_of_ble_eq_true rfl) ⟨Nat.le_of_ble_eq_true rfl, Nat.le_of_ble_eq_true rfl⟩ ⟨Nat.le_of_ble_eq_true rfl, Nat.le_of_ble_eq_true rfl⟩ (fun _ h => h) (fun H h => cm_in hmb h) ?_
  refine mw_if_eq X 35 rfl rfl (fun c15 => ?_) (fun c15 => ?_)
  · refine mw_steps X 1 (pc' := 36) (lv' := [(0, .ref mb), (1, .int x)]) (st' := [.int (nI 0)]) rfl ?_
    exact mw_zret X rfl (by decide) rfl (fun H h => ⟨congrArg (fun z => some (Value.int z)) (by first | rw [hlive, decide_eq_false c28]; rfl | rw [hlive, mo_b_z c15]; rfl), h⟩)
  · rw [mo_b_nz c15, Bool.true_and] at hlive
    obtain ⟨hx0, hxg⟩ := (ml_in0 (by omega) (by omega)).mp (mo_b_nz c15)
    obtain ⟨j, hj, rfl⟩ := ml_of_range hx0 hxg (by omega)
    rw [ml_n (by omega)] at hlive
    refine mw_steps X 1 (pc' := 19) (lv' := [(0, .ref mb), (1, .int (nI j))]) (st' := [.ref mb]) rfl ?_
    refine mw_get X kf_X5_7.fl kc_5 rfl (v := .ref (mb + 1)) (fun H h => ⟨_, h.1, rfl⟩) ?_
    refine mw_steps X 3 (pc' := 26) (lv' := [(0, .ref mb), (1, .int (nI j))]) (st' := [.int ((nI 47) + (nI j)), .ref (mb + 1)]) rfl ?_
    refine mw_iald X (v := W (47 + j)) (47 + j) (by simp only [nI_add, pk_mul]) rfl (fun H h => ⟨_, _, h.2.1, by omega, by decide, rfl⟩) ?_
    refine mw_steps X 1 (pc' := 28) (lv' := [(0, .ref mb), (1, .int (nI j))]) (st' := [.int (nI 1), .int (W (47 + j))]) rfl ?_
    refine mw_icmp_ne X 35 rfl rfl (fun c28 => ?_) (fun c28 => ?_)
    · refine mw_steps X 1 (pc' := 36) (lv' := [(0, .ref mb), (1, .int (nI j))]) (st' := [.int (nI 0)]) rfl ?_
      exact mw_zret X rfl (by decide) rfl (fun H h => ⟨congrArg (fun z => some (Value.int z)) (by first | rw [hlive, decide_eq_false c28]; rfl | rw [hlive, mo_b_z c15]; rfl), h⟩)
    · refine mw_steps X 2 (pc' := 36) (lv' := [(0, .ref mb), (1, .int (nI j))]) (st' := [.int (nI 1)]) rfl ?_
      exact mw_zret X rfl (by decide) rfl (fun H h => ⟨congrArg (fun z => some (Value.int z)) (by rw [hlive, decide_eq_true c28]; rfl), h⟩)
