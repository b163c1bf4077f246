set_option maxHeartbeats 4000000 in
set_option maxRecDepth 20000 in
theorem cm_may {l : Launch} {Γ : mw_C} {mb : Nat} (hmb : Γ.2.2.2 ≤ mb) {W : Nat → Int32} {ρ : md_R} {H : Heap} {p k : Nat} (hH : md_I Γ mb W ρ H) (hp : p < 5) (hk : k < 6) : mw_Cr l Γ mX5_maySend 2 0 0 (md_A mb) [.ref mb, .int (nI p), .int (nI k)] H (some (.int (mo_b (mo_may W p k)))) (md_I Γ mb W ρ) := by
  refine mw_ofG (P := pX5_maySend) (by decide) (md_As hmb) oX5_maySend (Nat.le_of_ble_eq_true rfl) ?_
  intro pg e0 sg mg below meth cd X hs
  refine mw_pre (I' := md_I Γ mb W ρ) (fun H1 h1 => by rw [h1]; exact hH) ?_
  refine mw_steps X 1 (pc' := 1) (lv' := [(0, .ref mb), (1, .int (nI p)), (2, .int (nI k))]) (st' := [.ref mb]) rfl ?_
  refine mw_get X kf_X5_7.fl kc_5 rfl (v := .ref (mb + 1)) (fun H h => ⟨_, h.1, rfl⟩) ?_
  refine mw_steps X 3 (pc' := 8) (lv' := [(0, .ref mb), (1, .int (nI p)), (2, .int (nI k))]) (st' := [.int ((nI 32) + (nI p)), .ref (mb + 1)]) rfl ?_
  refine mw_iald X (v := W (32 + p)) (32 + p) (by simp only [nI_add, pk_mul]) rfl (fun H h => ⟨_, _, h.2.1, by omega, by decide, rfl⟩) ?_
  refine mw_steps X 1 (pc' := 10) (lv' := [(0, .ref mb), (1, .int (nI p)), (2, .int (nI k))]) (st' := [.int (nI 1), .int (W (32 + p))]) rfl ?_
  refine mw_icmp_eq X 41 rfl rfl (fun c10 => ?_) (fun c10 => ?_)
  · refine mw_steps X 2 (pc' := 46) (lv' := [(0, .ref mb), (1, .int (nI p)), (2, .int (nI k))]) (st' := [.int (nI 1)]) rfl ?_
    exact mw_zret X rfl (by decide) rfl (fun H h => ⟨congrArg (fun z => some (Value.int z)) (by first | rw [ml_may_t1 c10]; rfl | rw [ml_may_t2 c38]; rfl), h⟩)
  · refine mw_steps X 1 (pc' := 14) (lv' := [(0, .ref mb), (1, .int (nI p)), (2, .int (nI k))]) (st' := [.ref mb]) rfl ?_
    refine mw_get X kf_X5_7.fl kc_5 rfl (v := .ref (mb + 1)) (fun H h => ⟨_, h.1, rfl⟩) ?_
    refine mw_steps X 3 (pc' := 21) (lv' := [(0, .ref mb), (1, .int (nI p)), (2, .int (nI k))]) (st' := [.int ((nI 42) + (nI p)), .ref (mb + 1)]) rfl ?_
    refine mw_iald X (v := W (42 + p)) (42 + p) (by simp only [nI_add, pk_mul]) rfl (fun H h => ⟨_, _, h.2.1, by omega, by decide, rfl⟩) ?_
    refine mw_steps X 1 (pc' := 23) (lv' := [(0, .ref mb), (1, .int (nI p)), (2, .int (nI k))]) (st' := [.int (nI k), .int (W (42 + p))]) rfl ?_
    refine mw_cS1r X kd_X5_sizeOf ks_X5_sizeOf kl_X5_25 rfl (Nat.le_of_ble_eq_true rfl) ⟨Nat.le_of_ble_eq_true rfl, Nat.le_of_ble_eq_true rfl⟩ ⟨Nat.le_of_ble_eq_true rfl, Nat.le_of_ble_eq_true rfl⟩ (fun _ h => h) (fun H h => cm_sizeOf hmb hk h) ?_
    refine mw_steps X 3 (pc' := 29) (lv' := [(0, .ref mb), (1, .int (nI p)), (2, .int (nI k))]) (st' := [.ref mb, .int (nI 3), .int ((W (42 + p)) + (mw_sz k))]) rfl ?_
    refine mw_get X kf_X5_7.fl kc_5 rfl (v := .ref (mb + 1)) (fun H h => ⟨_, h.1, rfl⟩) ?_
    refine mw_steps X 3 (pc' := 36) (lv' := [(0, .ref mb), (1, .int (nI p)), (2, .int (nI k))]) (st' := [.int ((nI 37) + (nI p)), .ref (mb + 1), .int (nI 3), .int ((W (42 + p)) + (mw_sz k))]) rfl ?_
    refine mw_iald X (v := W (37 + p)) (37 + p) (by simp only [nI_add, pk_mul]) rfl (fun H h => ⟨_, _, h.2.1, by omega, by decide, rfl⟩) ?_
    refine mw_steps X 1 (pc' := 38) (lv' := [(0, .ref mb), (1, .int (nI p)), (2, .int (nI k))]) (st' := [.int ((nI 3) * (W (37 + p))), .int ((W (42 + p)) + (mw_sz k))]) rfl ?_
    refine mw_icmp_gt X 45 rfl rfl (fun c38 => ?_) (fun c38 => ?_)
    · refine mw_steps X 1 (pc' := 46) (lv' := [(0, .ref mb), (1, .int (nI p)), (2, .int (nI k))]) (st' := [.int (nI 0)]) rfl ?_
      exact mw_zret X rfl (by decide) rfl (fun H h => ⟨congrArg (fun z => some (Value.int z)) (by rw [ml_may_f c10 c38]; rfl), h⟩)
    · refine mw_steps X 2 (pc' := 46) (lv' := [(0, .ref mb), (1, .int (nI p)), (2, .int (nI k))]) (st' := [.int (nI 1)]) rfl ?_
      exact mw_zret X rfl (by decide) rfl (fun H h => ⟨congrArg (fun z => some (Value.int z)) (by first | rw [ml_may_t1 c10]; rfl | rw [ml_may_t2 c38]; rfl), h⟩)
set_option maxHeartbeats 4000000 in
set_option maxRecDepth 20000 in
theorem cm_hold {l : Launch} {Γ : mw_C} {mb : Nat} (hmb : Γ.2.2.2 ≤ mb) {W : Nat → Int32} {ρ : md_R} {H : Heap} {p k n : Nat} {v : Int32} (hH : md_I Γ mb W ρ H) (hp : p < 5) (hk : k < 6) (hn : W 12 = nI n) (hn2 : n ≤ 12) : mw_Cr l Γ mX5_hold 2 0 0 (md_A mb) [.ref mb, .int (nI p), .int (nI k), .int v] H none (md_I Γ mb (mo_hold W p k v) ρ) := by
  refine mw_ofG (P := pX5_hold) (by decide) (md_As hmb) oX5_hold (Nat.le_of_ble_eq_true rfl) ?_
  intro pg e0 sg mg below meth cd X hs
  refine mw_pre (I' := md_I Γ mb W ρ) (fun H1 h1 => by rw [h1]; exact hH) ?_
  refine mw_steps X 1 (pc' := 1) (lv' := [(0, .ref mb), (1, .int (nI p)), (2, .int (nI k)), (3, .int v)]) (st' := [.ref mb]) rfl ?_
  refine mw_get X kf_X5_7.fl kc_5 rfl (v := .ref (mb + 1)) (fun H h => ⟨_, h.1, rfl⟩) ?_
  refine mw_steps X 1 (pc' := 6) (lv' := [(0, .ref mb), (1, .int (nI p)), (2, .int (nI k)), (3, .int v)]) (st' := [.int (nI 12), .ref (mb + 1)]) rfl ?_
  refine mw_iald X (v := nI n) (12) rfl rfl (fun H h => ⟨_, _, h.2.1, by omega, by decide, hn⟩) ?_
  refine mw_steps X 1 (pc' := 9) (lv' := [(0, .ref mb), (1, .int (nI p)), (2, .int (nI k)), (3, .int v)]) (st' := [.int (nI 12), .int (nI n)]) rfl ?_
  refine mw_icmp_ne X 23 rfl rfl (fun c9 => ?_) (fun c9 => ?_)
  · refine mw_steps X 3 (pc' := 28) (lv' := [(0, .ref mb), (1, .int (nI p)), (2, .int (nI k)), (3, .int v)]) (st' := [.ref mb, .int (nI 3), .int (nI 471)]) rfl ?_
    refine mw_get X kf_X5_7.fl kc_5 rfl (v := .ref (mb + 1)) (fun H h => ⟨_, h.1, rfl⟩) ?_
    refine mw_steps X 1 (pc' := 33) (lv' := [(0, .ref mb), (1, .int (nI p)), (2, .int (nI k)), (3, .int v)]) (st' := [.int (nI 12), .ref (mb + 1), .int (nI 3), .int (nI 471)]) rfl ?_
    refine mw_iald X (v := nI n) (12) rfl rfl (fun H h => ⟨_, _, h.2.1, by omega, by decide, hn⟩) ?_
    refine mw_steps X 4 (pc' := 39) (lv' := [(4, .int ((nI 471) + ((nI 3) * (nI n)))), (0, .ref mb), (1, .int (nI p)), (2, .int (nI k)), (3, .int v)]) (st' := [.ref mb]) rfl ?_
    refine mw_get X kf_X5_7.fl kc_5 rfl (v := .ref (mb + 1)) (fun H h => ⟨_, h.1, rfl⟩) ?_
    refine mw_steps X 2 (pc' := 45) (lv' := [(4, .int ((nI 471) + ((nI 3) * (nI n)))), (0, .ref mb), (1, .int (nI p)), (2, .int (nI k)), (3, .int v)]) (st' := [.int (nI p), .int ((nI 471) + ((nI 3) * (nI n))), .ref (mb + 1)]) rfl ?_
    refine mw_iast X (I1 := md_I Γ mb (upd W (471 + 3 * n) (nI p)) ρ) (471 + 3 * n) (by simp only [nI_add, pk_mul]) rfl (fun H h => ⟨md_A1, _, _, h.2.1, by omega, by decide, fun H1 o c => h.stw o c⟩) ?_
    refine mw_steps X 1 (pc' := 47) (lv' := [(4, .int ((nI 471) + ((nI 3) * (nI n)))), (0, .ref mb), (1, .int (nI p)), (2, .int (nI k)), (3, .int v)]) (st' := [.ref mb]) rfl ?_
    refine mw_get X kf_X5_7.fl kc_5 rfl (v := .ref (mb + 1)) (fun H h => ⟨_, h.1, rfl⟩) ?_
    refine mw_steps X 4 (pc' := 55) (lv' := [(4, .int ((nI 471) + ((nI 3) * (nI n)))), (0, .ref mb), (1, .int (nI p)), (2, .int (nI k)), (3, .int v)]) (st' := [.int (nI k), .int (((nI 471) + ((nI 3) * (nI n))) + (nI 1)), .ref (mb + 1)]) rfl ?_
    refine mw_iast X (I1 := md_I Γ mb (upd (upd W (471 + 3 * n) (nI p)) (471 + 3 * n + 1) (nI k)) ρ) (471 + 3 * n + 1) (by simp only [nI_add, pk_mul]) rfl (fun H h => ⟨md_A1, _, _, h.2.1, by omega, by decide, fun H1 o c => h.stw o c⟩) ?_
    refine mw_steps X 1 (pc' := 57) (lv' := [(4, .int ((nI 471) + ((nI 3) * (nI n)))), (0, .ref mb), (1, .int (nI p)), (2, .int (nI k)), (3, .int v)]) (st' := [.ref mb]) rfl ?_
    refine mw_get X kf_X5_7.fl kc_5 rfl (v := .ref (mb + 1)) (fun H h => ⟨_, h.1, rfl⟩) ?_
    refine mw_steps X 4 (pc' := 65) (lv' := [(4, .int ((nI 471) + ((nI 3) * (nI n)))), (0, .ref mb), (1, .int (nI p)), (2, .int (nI k)), (3, .int v)]) (st' := [.int v, .int (((nI 471) + ((nI 3) * (nI n))) + (nI 2)), .ref (mb + 1)]) rfl ?_
    refine mw_iast X (I1 := md_I Γ mb (upd (upd (upd W (471 + 3 * n) (nI p)) (471 + 3 * n + 1) (nI k)) (471 + 3 * n + 2) v) ρ) (471 + 3 * n + 2) (by simp only [nI_add, pk_mul]) rfl (fun H h => ⟨md_A1, _, _, h.2.1, by omega, by decide, fun H1 o c => h.stw o c⟩) ?_
    refine mw_steps X 1 (pc' := 67) (lv' := [(4, .int ((nI 471) + ((nI 3) * (nI n)))), (0, .ref mb), (1, .int (nI p)), (2, .int (nI k)), (3, .int v)]) (st' := [.ref mb]) rfl ?_
    refine mw_get X kf_X5_7.fl kc_5 rfl (v := .ref (mb + 1)) (fun H h => ⟨_, h.1, rfl⟩) ?_
    refine mw_steps X 2 (pc' := 73) (lv' := [(4, .int ((nI 471) + ((nI 3) * (nI n)))), (0, .ref mb), (1, .int (nI p)), (2, .int (nI k)), (3, .int v)]) (st' := [.int (nI 12), .ref (mb + 1), .int (nI 12), .ref (mb + 1)]) rfl ?_
    refine mw_iald X (v := nI n) (12) rfl rfl (fun H h => ⟨_, _, h.2.1, by omega, by decide, (by simp (disch := omega) only [pk_un]; exact hn)⟩) ?_
    refine mw_steps X 2 (pc' := 76) (lv' := [(4, .int ((nI 471) + ((nI 3) * (nI n)))), (0, .ref mb), (1, .int (nI p)), (2, .int (nI k)), (3, .int v)]) (st' := [.int ((nI n) + (nI 1)), .int (nI 12), .ref (mb + 1)]) rfl ?_
    refine mw_iast X (I1 := md_I Γ mb (upd (upd (upd (upd W (471 + 3 * n) (nI p)) (471 + 3 * n + 1) (nI k)) (471 + 3 * n + 2) v) (12) ((nI n) + (nI 1))) ρ) (12) rfl rfl (fun H h => ⟨md_A1, _, _, h.2.1, by omega, by decide, fun H1 o c => h.stw o c⟩) ?_
    exact mw_vret X rfl rfl (fun H h => ⟨rfl, by rw [show mo_hold W p k v = upd (upd (upd (upd W (471 + 3 * n) (nI p)) (471 + 3 * n + 1) (nI k)) (471 + 3 * n + 2) v) (12) ((nI n) + (nI 1)) from by exact ml_hold_add hn hn2 c9]; exact h⟩)
  · have hn12 : n = 12 := (nI_eq (by omega) (by omega)).mp c9
    subst hn12
    refine mw_steps X 5 (pc' := 20) (lv' := [(0, .ref mb), (1, .int (nI p)), (2, .int (nI k)), (3, .int v)]) (st' := [.int (nI 0), .int (nI 12), .int (nI 3), .int (nI 471), .ref mb]) rfl ?_
    refine mw_cV4v X kd_X5_removeAt kv_X5_removeAt kl_X5_29 (ci := 5) rfl rfl (Nat.le_of_ble_eq_true rfl) ⟨Nat.le_of_ble_eq_true rfl, Nat.le_of_ble_eq_true rfl⟩ ⟨Nat.le_of_ble_eq_true rfl, Nat.le_of_ble_eq_true rfl⟩ (fun _ h => h) (fun H h => ⟨⟨_, h.1⟩, cm_removeAt hmb h (f := 471) (z := 3) (q := 12) hn (by omega) (by omega) (by omega) (by omega) (by omega)⟩) ?_
    obtain ⟨V, hV⟩ : ∃ V, V = mo_rm W 471 3 12 0 := ⟨_, rfl⟩
    rw [← hV]
    have hV12 : V 12 = nI 11 := by rw [hV]; exact ml_rmh_q hn (by omega)
    refine mw_steps X 3 (pc' := 28) (lv' := [(0, .ref mb), (1, .int (nI p)), (2, .int (nI k)), (3, .int v)]) (st' := [.ref mb, .int (nI 3), .int (nI 471)]) rfl ?_
    refine mw_get X kf_X5_7.fl kc_5 rfl (v := .ref (mb + 1)) (fun H h => ⟨_, h.1, rfl⟩) ?_
    refine mw_steps X 1 (pc' := 33) (lv' := [(0, .ref mb), (1, .int (nI p)), (2, .int (nI k)), (3, .int v)]) (st' := [.int (nI 12), .ref (mb + 1), .int (nI 3), .int (nI 471)]) rfl ?_
    refine mw_iald X (v := nI 11) (12) rfl rfl (fun H h => ⟨_, _, h.2.1, by omega, by decide, hV12⟩) ?_
    refine mw_steps X 4 (pc' := 39) (lv' := [(4, .int ((nI 471) + ((nI 3) * (nI 11)))), (0, .ref mb), (1, .int (nI p)), (2, .int (nI k)), (3, .int v)]) (st' := [.ref mb]) rfl ?_
    refine mw_get X kf_X5_7.fl kc_5 rfl (v := .ref (mb + 1)) (fun H h => ⟨_, h.1, rfl⟩) ?_
    refine mw_steps X 2 (pc' := 45) (lv' := [(4, .int ((nI 471) + ((nI 3) * (nI 11)))), (0, .ref mb), (1, .int (nI p)), (2, .int (nI k)), (3, .int v)]) (st' := [.int (nI p), .int ((nI 471) + ((nI 3) * (nI 11))), .ref (mb + 1)]) rfl ?_
    refine mw_iast X (I1 := md_I Γ mb (upd V (471 + 3 * 11) (nI p)) ρ) (471 + 3 * 11) (by simp only [nI_add, pk_mul]) rfl (fun H h => ⟨md_A1, _, _, h.2.1, by omega, by decide, fun H1 o c => h.stw o c⟩) ?_
    refine mw_steps X 1 (pc' := 47) (lv' := [(4, .int ((nI 471) + ((nI 3) * (nI 11)))), (0, .ref mb), (1, .int (nI p)), (2, .int (nI k)), (3, .int v)]) (st' := [.ref mb]) rfl ?_
    refine mw_get X kf_X5_7.fl kc_5 rfl (v := .ref (mb + 1)) (fun H h => ⟨_, h.1, rfl⟩) ?_
    refine mw_steps X 4 (pc' := 55) (lv' := [(4, .int ((nI 471) + ((nI 3) * (nI 11)))), (0, .ref mb), (1, .int (nI p)), (2, .int (nI k)), (3, .int v)]) (st' := [.int (nI k), .int (((nI 471) + ((nI 3) * (nI 11))) + (nI 1)), .ref (mb + 1)]) rfl ?_
    refine mw_iast X (I1 := md_I Γ mb (upd (upd V (471 + 3 * 11) (nI p)) (471 + 3 * 11 + 1) (nI k)) ρ) (471 + 3 * 11 + 1) (by simp only [nI_add, pk_mul]) rfl (fun H h => ⟨md_A1, _, _, h.2.1, by omega, by decide, fun H1 o c => h.stw o c⟩) ?_
    refine mw_steps X 1 (pc' := 57) (lv' := [(4, .int ((nI 471) + ((nI 3) * (nI 11)))), (0, .ref mb), (1, .int (nI p)), (2, .int (nI k)), (3, .int v)]) (st' := [.ref mb]) rfl ?_
    refine mw_get X kf_X5_7.fl kc_5 rfl (v := .ref (mb + 1)) (fun H h => ⟨_, h.1, rfl⟩) ?_
    refine mw_steps X 4 (pc' := 65) (lv' := [(4, .int ((nI 471) + ((nI 3) * (nI 11)))), (0, .ref mb), (1, .int (nI p)), (2, .int (nI k)), (3, .int v)]) (st' := [.int v, .int (((nI 471) + ((nI 3) * (nI 11))) + (nI 2)), .ref (mb + 1)]) rfl ?_
    refine mw_iast X (I1 := md_I Γ mb (upd (upd (upd V (471 + 3 * 11) (nI p)) (471 + 3 * 11 + 1) (nI k)) (471 + 3 * 11 + 2) v) ρ) (471 + 3 * 11 + 2) (by simp only [nI_add, pk_mul]) rfl (fun H h => ⟨md_A1, _, _, h.2.1, by omega, by decide, fun H1 o c => h.stw o c⟩) ?_
    refine mw_steps X 1 (pc' := 67) (lv' := [(4, .int ((nI 471) + ((nI 3) * (nI 11)))), (0, .ref mb), (1, .int (nI p)), (2, .int (nI k)), (3, .int v)]) (st' := [.ref mb]) rfl ?_
    refine mw_get X kf_X5_7.fl kc_5 rfl (v := .ref (mb + 1)) (fun H h => ⟨_, h.1, rfl⟩) ?_
    refine mw_steps X 2 (pc' := 73) (lv' := [(4, .int ((nI 471) + ((nI 3) * (nI 11)))), (0, .ref mb), (1, .int (nI p)), (2, .int (nI k)), (3, .int v)]) (st' := [.int (nI 12), .ref (mb + 1), .int (nI 12), .ref (mb + 1)]) rfl ?_
    refine mw_iald X (v := nI 11) (12) rfl rfl (fun H h => ⟨_, _, h.2.1, by omega, by decide, (by simp (disch := omega) only [pk_un]; exact hV12)⟩) ?_
    refine mw_steps X 2 (pc' := 76) (lv' := [(4, .int ((nI 471) + ((nI 3) * (nI 11)))), (0, .ref mb), (1, .int (nI p)), (2, .int (nI k)), (3, .int v)]) (st' := [.int ((nI 11) + (nI 1)), .int (nI 12), .ref (mb + 1)]) rfl ?_
    refine mw_iast X (I1 := md_I Γ mb (upd (upd (upd (upd V (471 + 3 * 11) (nI p)) (471 + 3 * 11 + 1) (nI k)) (471 + 3 * 11 + 2) v) (12) ((nI 11) + (nI 1))) ρ) (12) rfl rfl (fun H h => ⟨md_A1, _, _, h.2.1, by omega, by decide, fun H1 o c => h.stw o c⟩) ?_
    exact mw_vret X rfl rfl (fun H h => ⟨rfl, by rw [show mo_hold W p k v = upd (upd (upd (upd V (471 + 3 * 11) (nI p)) (471 + 3 * 11 + 1) (nI k)) (471 + 3 * 11 + 2) v) (12) ((nI 11) + (nI 1)) from by exact ml_hold_full hn hV]; exact h⟩)
set_option maxHeartbeats 4000000 in
set_option maxRecDepth 20000 in
theorem cm_goes0 {l : Launch} {Γ : mw_C} {mb : Nat} (hmb : Γ.2.2.2 ≤ mb) {W : Nat → Int32} {ρ : md_R} {H : Heap} {p k : Nat} {v : Int32} (hH : md_I Γ mb W ρ H) (hc : iv_c W) (hp : p < 5) (hk : k < 6) : mw_Cr l Γ mX5_goes 3 0 0 (md_A mb) [.ref mb, .int (nI 0), .int (nI p), .int (nI k), .int v] H none (md_I Γ mb (mo_goes W 0 p k v) ρ) := by
  have hr := ml_i11 hc
  have hr2 := ml_n24 hc
  have hn := ml_i12 hc
  have hn2 := ml_n12 hc
  refine mw_ofG (P := pX5_goes) (by decide) (md_As hmb) oX5_goes (Nat.le_of_ble_eq_true rfl) ?_
  intro pg e0 sg mg below meth cd X hs
  refine mw_pre (I' := md_I Γ mb W ρ) (fun H1 h1 => by rw [h1]; exact hH) ?_
  refine mw_steps X 1 (pc' := 1) (lv' := [(0, .ref mb), (1, .int (nI 0)), (2, .int (nI p)), (3, .int (nI k)), (4, .int v)]) (st' := [.int (nI 0)]) rfl ?_
  refine mw_if_eq X 13 rfl rfl (fun c1 => ?_) (fun c1 => absurd (by decide) c1)
  refine mw_steps X 5 (pc' := 19) (lv' := [(0, .ref mb), (1, .int (nI 0)), (2, .int (nI p)), (3, .int (nI k)), (4, .int v)]) (st' := [.int v, .int (nI k), .int (nI p), .int (nI 0), .ref mb]) rfl ?_
  refine mw_cV4v X kd_X5_send kv_X5_send kl_X5_37 (ci := 5) rfl rfl (Nat.le_of_ble_eq_true rfl) ⟨Nat.le_of_ble_eq_true rfl, Nat.le_of_ble_eq_true rfl⟩ ⟨Nat.le_of_ble_eq_true rfl, Nat.le_of_ble_eq_true rfl⟩ (fun _ h => h) (fun H h => ⟨⟨_, h.1⟩, cm_send0 hmb h hp hk hr hr2⟩) ?_
  refine mw_steps X 1 (pc' := 33) (lv' := [(0, .ref mb), (1, .int (nI 0)), (2, .int (nI p)), (3, .int (nI k)), (4, .int v)]) (st' := []) rfl ?_
  exact mw_vret X rfl rfl (fun H h => ⟨rfl, by rw [show mo_goes W 0 p k v = mo_send W 0 p k v from by exact ml_goes_send0]; exact h⟩)
set_option maxHeartbeats 4000000 in
set_option maxRecDepth 20000 in
theorem cm_goes1 {l : Launch} {Γ : mw_C} {mb : Nat} (hmb : Γ.2.2.2 ≤ mb) {W : Nat → Int32} {ρ : md_R} {H : Heap} {p k : Nat} {v : Int32} (hH : md_I Γ mb W ρ H) (hc : iv_c W) (hp : p < 5) (hk : k < 6) : mw_Cr l Γ mX5_goes 3 0 0 (md_A mb) [.ref mb, .int (nI 1), .int (nI p), .int (nI k), .int v] H none (md_I Γ mb (mo_goes W 1 p k v) ρ) := by
  have hr := ml_i11 hc
  have hr2 := ml_n24 hc
  have hn := ml_i12 hc
  have hn2 := ml_n12 hc
  refine mw_ofG (P := pX5_goes) (by decide) (md_As hmb) oX5_goes (Nat.le_of_ble_eq_true rfl) ?_
  intro pg e0 sg mg below meth cd X hs
  refine mw_pre (I' := md_I Γ mb W ρ) (fun H1 h1 => by rw [h1]; exact hH) ?_
  refine mw_steps X 1 (pc' := 1) (lv' := [(0, .ref mb), (1, .int (nI 1)), (2, .int (nI p)), (3, .int (nI k)), (4, .int v)]) (st' := [.int (nI 1)]) rfl ?_
  refine mw_if_eq X 13 rfl rfl (fun c1 => absurd c1 (by decide)) (fun c1 => ?_)
  refine mw_steps X 3 (pc' := 7) (lv' := [(0, .ref mb), (1, .int (nI 1)), (2, .int (nI p)), (3, .int (nI k)), (4, .int v)]) (st' := [.int (nI k), .int (nI p), .ref mb]) rfl ?_
  refine mw_cV2r X kd_X5_maySend kv_X5_maySend kl_X5_33 (ci := 5) rfl rfl (Nat.le_of_ble_eq_true rfl) ⟨Nat.le_of_ble_eq_true rfl, Nat.le_of_ble_eq_true rfl⟩ ⟨Nat.le_of_ble_eq_true rfl, Nat.le_of_ble_eq_true rfl⟩ (fun _ h => h) (fun H h => ⟨⟨_, h.1⟩, cm_may hmb h hp hk⟩) ?_
  refine mw_if_eq X 25 rfl rfl (fun c10 => ?_) (fun c10 => ?_)
  · refine mw_steps X 4 (pc' := 30) (lv' := [(0, .ref mb), (1, .int (nI 1)), (2, .int (nI p)), (3, .int (nI k)), (4, .int v)]) (st' := [.int v, .int (nI k), .int (nI p), .ref mb]) rfl ?_
    refine mw_cV3v X kd_X5_hold kv_X5_hold kl_X5_40 (ci := 5) rfl rfl (Nat.le_of_ble_eq_true rfl) ⟨Nat.le_of_ble_eq_true rfl, Nat.le_of_ble_eq_true rfl⟩ ⟨Nat.le_of_ble_eq_true rfl, Nat.le_of_ble_eq_true rfl⟩ (fun _ h => h) (fun H h => ⟨⟨_, h.1⟩, cm_hold hmb h hp hk hn hn2⟩) ?_
    exact mw_vret X rfl rfl (fun H h => ⟨rfl, by rw [show mo_goes W 1 p k v = mo_hold W p k v from by exact ml_goes_hold (mo_b_z c10)]; exact h⟩)
  · refine mw_steps X 5 (pc' := 19) (lv' := [(0, .ref mb), (1, .int (nI 1)), (2, .int (nI p)), (3, .int (nI k)), (4, .int v)]) (st' := [.int v, .int (nI k), .int (nI p), .int (nI 1), .ref mb]) rfl ?_
    refine mw_cV4v X kd_X5_send kv_X5_send kl_X5_37 (ci := 5) rfl rfl (Nat.le_of_ble_eq_true rfl) ⟨Nat.le_of_ble_eq_true rfl, Nat.le_of_ble_eq_true rfl⟩ ⟨Nat.le_of_ble_eq_true rfl, Nat.le_of_ble_eq_true rfl⟩ (fun _ h => h) (fun H h => ⟨⟨_, h.1⟩, cm_send1 hmb h hp hk hr hr2⟩) ?_
    refine mw_steps X 1 (pc' := 33) (lv' := [(0, .ref mb), (1, .int (nI 1)), (2, .int (nI p)), (3, .int (nI k)), (4, .int v)]) (st' := []) rfl ?_
    exact mw_vret X rfl rfl (fun H h => ⟨rfl, by rw [show mo_goes W 1 p k v = mo_send W 1 p k v from by exact ml_goes_send (mo_b_nz c10)]; exact h⟩)
theorem cm_goes {l : Launch} {Γ : mw_C} {mb : Nat} (hmb : Γ.2.2.2 ≤ mb) {W : Nat → Int32} {ρ : md_R} {H : Heap} {e p k : Nat} {v : Int32} (hH : md_I Γ mb W ρ H) (hc : iv_c W) (he : e < 2) (hp : p < 5) (hk : k < 6) : mw_Cr l Γ mX5_goes 3 0 0 (md_A mb) [.ref mb, .int (nI e), .int (nI p), .int (nI k), .int v] H none (md_I Γ mb (mo_goes W e p k v) ρ) := by
  rcases (show e = 0 ∨ e = 1 by omega) with rfl | rfl
  · exact cm_goes0 hmb hH hc hp hk
  · exact cm_goes1 hmb hH hc hp hk
set_option maxHeartbeats 4000000 in
set_option maxRecDepth 20000 in
theorem cm_fh {l : Launch} {Γ : mw_C} {mb : Nat} (hmb : Γ.2.2.2 ≤ mb) {W : Nat → Int32} {ρ : md_R} {H : Heap} {p n : Nat} (hH : md_I Γ mb W ρ H) (hn : W 12 = nI n) (hn2 : n ≤ 12) : mw_Cr l Γ mX5_firstHeld 1 0 0 (md_A mb) [.ref mb, .int (nI p)] H (some (.int (mo_ix (mo_fh W p) n))) (md_I Γ mb W ρ) := by
  refine mw_ofG (P := pX5_firstHeld) (by decide) (md_As hmb) oX5_firstHeld (Nat.le_of_ble_eq_true rfl) ?_
  intro pg e0 sg mg below meth cd X hs
  refine mw_pre (I' := md_I Γ mb W ρ) (fun H1 h1 => by rw [h1]; exact hH) ?_
  refine mw_steps X 2 (pc' := 2) (lv' := [(2, .int (nI 0)), (0, .ref mb), (1, .int (nI p))]) (st' := []) rfl ?_
  refine mw_wf (fun t => n - t) (fun t => t ≤ n ∧ ∀ j, j < t → ¬ W (471 + 3 * j) = nI p) (fun _ => md_I Γ mb W ρ) (fun t => [(2, .int (nI t)), (0, .ref mb), (1, .int (nI p))]) (fun t ht ih => ?_) 0 ⟨Nat.zero_le _, fun j hj => absurd hj (Nat.not_lt_zero j)⟩
  obtain ⟨ht, hno⟩ := ht
  refine mw_steps X 2 (pc' := 4) (lv' := [(2, .int (nI t)), (0, .ref mb), (1, .int (nI p))]) (st' := [.ref mb, .int (nI t)]) rfl ?_
  refine mw_get X kf_X5_7.fl kc_5 rfl (v := .ref (mb + 1)) (fun H h => ⟨_, h.1, rfl⟩) ?_
  refine mw_steps X 1 (pc' := 9) (lv' := [(2, .int (nI t)), (0, .ref mb), (1, .int (nI p))]) (st' := [.int (nI 12), .ref (mb + 1), .int (nI t)]) rfl ?_
  refine mw_iald X (v := nI n) (12) rfl rfl (fun H h => ⟨_, _, h.2.1, by omega, by decide, hn⟩) ?_
  refine mw_icmp_ge X 37 rfl rfl (fun c10 => ?_) (fun c10 => ?_)
  · have htn : t = n := by rw [nI_leI (by omega) (by omega)] at c10; omega
    refine mw_steps X 1 (pc' := 38) (lv' := [(2, .int (nI t)), (0, .ref mb), (1, .int (nI p))]) (st' := [.int (-1)]) rfl ?_
    exact mw_iret X rfl rfl (fun H h => ⟨congrArg (fun z => some (Value.int z)) (by subst htn; unfold mo_ix; rw [ml_fh_none hn hn2 hno, if_neg (by omega)]), h⟩)
  · have htn : t < n := by rw [nI_leI (by omega) (by omega)] at c10; omega
    refine mw_steps X 1 (pc' := 14) (lv' := [(2, .int (nI t)), (0, .ref mb), (1, .int (nI p))]) (st' := [.ref mb]) rfl ?_
    refine mw_get X kf_X5_7.fl kc_5 rfl (v := .ref (mb + 1)) (fun H h => ⟨_, h.1, rfl⟩) ?_
    refine mw_steps X 5 (pc' := 24) (lv' := [(2, .int (nI t)), (0, .ref mb), (1, .int (nI p))]) (st' := [.int ((nI 471) + ((nI 3) * (nI t))), .ref (mb + 1)]) rfl ?_
    refine mw_iald X (v := W (471 + 3 * t)) (471 + 3 * t) (by simp only [nI_add, pk_mul]) rfl (fun H h => ⟨_, _, h.2.1, by omega, by decide, rfl⟩) ?_
    refine mw_steps X 1 (pc' := 26) (lv' := [(2, .int (nI t)), (0, .ref mb), (1, .int (nI p))]) (st' := [.int (nI p), .int (W (471 + 3 * t))]) rfl ?_
    refine mw_icmp_ne X 31 rfl rfl (fun c26 => ?_) (fun c26 => ?_)
    · refine mw_steps X 2 (pc' := 2) (lv' := [(2, .int ((nI t) + (nI 1))), (0, .ref mb), (1, .int (nI p))]) (st' := []) rfl ?_
      refine mw_lveq (lv' := [(2, .int (nI (t + 1))), (0, .ref mb), (1, .int (nI p))]) (by simp only [nI_add]) ?_
      exact ih (t + 1) ⟨by omega, ml_succ hno c26⟩ (by omega)
    · refine mw_steps X 1 (pc' := 30) (lv' := [(2, .int (nI t)), (0, .ref mb), (1, .int (nI p))]) (st' := [.int (nI t)]) rfl ?_
      exact mw_iret X rfl rfl (fun H h => ⟨congrArg (fun z => some (Value.int z)) (by unfold mo_ix; rw [ml_fh_is hn hn2 htn c26 hno, if_pos htn]), h⟩)
set_option maxHeartbeats 4000000 in
set_option maxRecDepth 20000 in
theorem cm_letOut {l : Launch} {Γ : mw_C} {mb : Nat} (hmb : Γ.2.2.2 ≤ mb) {W : Nat → Int32} {ρ : md_R} {H : Heap} {p c : Nat} (hH : md_I Γ mb W ρ H) (hv : iv (c + 12) W) (hp : p < 5) : mw_Cr l Γ mX5_letOut 3 0 0 (md_A mb) [.ref mb, .int (nI p)] H none (md_I Γ mb (mo_letOut W p) ρ) := by
  refine mw_ofG (P := pX5_letOut) (by decide) (md_As hmb) oX5_letOut (Nat.le_of_ble_eq_true rfl) ?_
  intro pg e0 sg mg below meth cd X hs
  refine mw_pre (I' := md_I Γ mb W ρ) (fun H1 h1 => by rw [h1]; exact hH) ?_
  refine mw_steps X 2 (pc' := 2) (lv' := [(0, .ref mb), (1, .int (nI p))]) (st' := [.int (nI p), .ref mb]) rfl ?_
  refine mw_cV1r X kd_X5_firstHeld kv_X5_firstHeld kl_X5_44 (ci := 5) rfl rfl (Nat.le_of_ble_eq_true rfl) ⟨Nat.le_of_ble_eq_true rfl, Nat.le_of_ble_eq_true rfl⟩ ⟨Nat.le_of_ble_eq_true rfl, Nat.le_of_ble_eq_true rfl⟩ (fun _ h => h) (fun H h => ⟨⟨_, h.1⟩, cm_fh hmb h (ml_i12 hv.1) (ml_n12 hv.1)⟩) ?_
  refine mw_steps X 1 (pc' := 6) (lv' := [(2, .int (mo_ix (mo_fh W p) (mo_n (W 12)))), (0, .ref mb), (1, .int (nI p))]) (st' := []) rfl ?_
  refine mw_wf (σ := Nat → Int32) (fun V => mo_n (V 12)) (fun V => iv (mo_n (V 12)) V ∧ mo_lo p (mo_n (V 12)) V = mo_letOut W p) (fun V => md_I Γ mb V ρ) (fun V => [(2, .int (mo_ix (mo_fh V p) (mo_n (V 12)))), (0, .ref mb), (1, .int (nI p))]) (fun V hV ih => ?_) W ⟨hv.less (by have := ml_n12 hv.1; omega), rfl⟩
  obtain ⟨hv, hlo⟩ := hV
  have hc := hv.1
  have hn := ml_i12 hc
  have hn2 := ml_n12 hc
  by_cases hf : mo_fh V p < mo_n (V 12)
  · have hix : mo_ix (mo_fh V p) (mo_n (V 12)) = nI (mo_fh V p) := if_pos hf
    rw [hix]
    obtain ⟨q, kd, -, hkd, -, hkk, hvv⟩ := hv.2.2.2.1 _ hf
    obtain ⟨k, hk⟩ : ∃ k, k = mo_fh V p := ⟨_, rfl⟩
    rw [← hk] at hf hkk hvv ⊢
    obtain ⟨r, hr⟩ : ∃ r, mo_n (V 12) = r + 1 := ⟨mo_n (V 12) - 1, by omega⟩
    have hlo2 : mo_lo p (r + 1) V = mo_letOut W p := by rw [← hr]; exact hlo
    unfold mo_lo at hlo2
    rw [← hk, if_pos hf, hkk, ml_n (by omega)] at hlo2
    refine mw_steps X 1 (pc' := 7) (lv' := [(2, .int (nI k)), (0, .ref mb), (1, .int (nI p))]) (st' := [.int (nI k)]) rfl ?_
    refine mw_if_lt X 92 rfl rfl (fun c7 => absurd c7 (nI_pos (by omega))) (fun c7 => ?_)
    refine mw_steps X 3 (pc' := 13) (lv' := [(2, .int (nI k)), (0, .ref mb), (1, .int (nI p))]) (st' := [.ref mb, .int (nI p), .ref mb]) rfl ?_
    refine mw_get X kf_X5_7.fl kc_5 rfl (v := .ref (mb + 1)) (fun H h => ⟨_, h.1, rfl⟩) ?_
    refine mw_steps X 7 (pc' := 25) (lv' := [(2, .int (nI k)), (0, .ref mb), (1, .int (nI p))]) (st' := [.int (((nI 471) + ((nI 3) * (nI k))) + (nI 1)), .ref (mb + 1), .int (nI p), .ref mb]) rfl ?_
    refine mw_iald X (v := nI kd) (471 + 3 * k + 1) (by simp only [nI_add, pk_mul]) rfl (fun H h => ⟨_, _, h.2.1, by omega, by decide, hkk⟩) ?_
    refine mw_cV2r X kd_X5_maySend kv_X5_maySend kl_X5_33 (ci := 5) rfl rfl (Nat.le_of_ble_eq_true rfl) ⟨Nat.le_of_ble_eq_true rfl, Nat.le_of_ble_eq_true rfl⟩ ⟨Nat.le_of_ble_eq_true rfl, Nat.le_of_ble_eq_true rfl⟩ (fun _ h => h) (fun H h => ⟨⟨_, h.1⟩, cm_may hmb h hp hkd⟩) ?_
    refine mw_if_eq X 92 rfl rfl (fun c29 => ?_) (fun c29 => ?_)
    · exact mw_vret X rfl rfl (fun H h => ⟨rfl, by rw [if_neg (by rw [mo_b_z c29]; decide)] at hlo2; rw [← hlo2]; exact h⟩)
    · rw [if_pos (mo_b_nz c29)] at hlo2
      have hrm := iv_rmh hv hf
      refine mw_steps X 1 (pc' := 33) (lv' := [(2, .int (nI k)), (0, .ref mb), (1, .int (nI p))]) (st' := [.ref mb]) rfl ?_
      refine mw_get X kf_X5_7.fl kc_5 rfl (v := .ref (mb + 1)) (fun H h => ⟨_, h.1, rfl⟩) ?_
      refine mw_steps X 7 (pc' := 45) (lv' := [(2, .int (nI k)), (0, .ref mb), (1, .int (nI p))]) (st' := [.int (((nI 471) + ((nI 3) * (nI k))) + (nI 1)), .ref (mb + 1)]) rfl ?_
      refine mw_iald X (v := nI kd) (471 + 3 * k + 1) (by simp only [nI_add, pk_mul]) rfl (fun H h => ⟨_, _, h.2.1, by omega, by decide, hkk⟩) ?_
      refine mw_steps X 2 (pc' := 48) (lv' := [(3, .int (nI kd)), (2, .int (nI k)), (0, .ref mb), (1, .int (nI p))]) (st' := [.ref mb]) rfl ?_
      refine mw_get X kf_X5_7.fl kc_5 rfl (v := .ref (mb + 1)) (fun H h => ⟨_, h.1, rfl⟩) ?_
      refine mw_steps X 7 (pc' := 60) (lv' := [(3, .int (nI kd)), (2, .int (nI k)), (0, .ref mb), (1, .int (nI p))]) (st' := [.int (((nI 471) + ((nI 3) * (nI k))) + (nI 2)), .ref (mb + 1)]) rfl ?_
      refine mw_iald X (v := V (471 + 3 * k + 2)) (471 + 3 * k + 2) (by simp only [nI_add, pk_mul]) rfl (fun H h => ⟨_, _, h.2.1, by omega, by decide, rfl⟩) ?_
      refine mw_steps X 6 (pc' := 71) (lv' := [(4, .int (V (471 + 3 * k + 2))), (3, .int (nI kd)), (2, .int (nI k)), (0, .ref mb), (1, .int (nI p))]) (st' := [.int (nI k), .int (nI 12), .int (nI 3), .int (nI 471), .ref mb]) rfl ?_
      refine mw_cV4v X kd_X5_removeAt kv_X5_removeAt kl_X5_29 (ci := 5) rfl rfl (Nat.le_of_ble_eq_true rfl) ⟨Nat.le_of_ble_eq_true rfl, Nat.le_of_ble_eq_true rfl⟩ ⟨Nat.le_of_ble_eq_true rfl, Nat.le_of_ble_eq_true rfl⟩ (fun _ h => h) (fun H h => ⟨⟨_, h.1⟩, cm_removeAt hmb h (f := 471) (z := 3) (q := 12) hn (by omega) (by omega) (by omega) (by omega) (by omega)⟩) ?_
      refine mw_steps X 5 (pc' := 80) (lv' := [(4, .int (V (471 + 3 * k + 2))), (3, .int (nI kd)), (2, .int (nI k)), (0, .ref mb), (1, .int (nI p))]) (st' := [.int (V (471 + 3 * k + 2)), .int (nI kd), .int (nI p), .int (nI 1), .ref mb]) rfl ?_
      refine mw_cV4v X kd_X5_send kv_X5_send kl_X5_37 (ci := 5) rfl rfl (Nat.le_of_ble_eq_true rfl) ⟨Nat.le_of_ble_eq_true rfl, Nat.le_of_ble_eq_true rfl⟩ ⟨Nat.le_of_ble_eq_true rfl, Nat.le_of_ble_eq_true rfl⟩ (fun _ h => h) (fun H h => ⟨⟨_, h.1⟩, cm_send1 hmb h hp hkd (ml_i11 hrm.1) (ml_n24 hrm.1)⟩) ?_
      obtain ⟨V2, hV2⟩ : ∃ V2, V2 = mo_send (mo_rm V 471 3 12 k) 1 p kd (V (471 + 3 * k + 2)) := ⟨_, rfl⟩
      rw [← hV2] at hlo2 ⊢
      have hi2 : iv r V2 := by rw [hV2]; exact iv_send (c := r) (by rw [← hr]; exact hrm) (by omega) hp hkd hvv
      have h12 : mo_n (V2 12) = r := by rw [hV2, ml_send_12 hrm.1 (by omega) hp, ml_rmh_q hn (by omega), ml_n (by omega)]; omega
      refine mw_steps X 2 (pc' := 85) (lv' := [(4, .int (V (471 + 3 * k + 2))), (3, .int (nI kd)), (2, .int (nI k)), (0, .ref mb), (1, .int (nI p))]) (st' := [.int (nI p), .ref mb]) rfl ?_
      refine mw_cV1r X kd_X5_firstHeld kv_X5_firstHeld kl_X5_44 (ci := 5) rfl rfl (Nat.le_of_ble_eq_true rfl) ⟨Nat.le_of_ble_eq_true rfl, Nat.le_of_ble_eq_true rfl⟩ ⟨Nat.le_of_ble_eq_true rfl, Nat.le_of_ble_eq_true rfl⟩ (fun _ h => h) (fun H h => ⟨⟨_, h.1⟩, cm_fh hmb h (ml_i12 hi2.1) (ml_n12 hi2.1)⟩) ?_
      refine mw_steps X 2 (pc' := 6) (lv' := [(2, .int (mo_ix (mo_fh V2 p) (mo_n (V2 12)))), (4, .int (V (471 + 3 * k + 2))), (3, .int (nI kd)), (0, .ref mb), (1, .int (nI p))]) (st' := []) rfl ?_
      refine mw_lvs [0, 3, 4] rfl ?_
      exact ih V2 ⟨by rw [h12]; exact hi2, by rw [h12]; exact hlo2⟩ (by omega)
  · have hix : mo_ix (mo_fh V p) (mo_n (V 12)) = -1 := if_neg hf
    rw [hix]
    have hlo2 : V = mo_letOut W p := by
      rw [← hlo]
      cases hz : mo_n (V 12) with
      | zero => rfl
      | succ r => unfold mo_lo; rw [if_neg hf]
    refine mw_steps X 1 (pc' := 7) (lv' := [(2, .int (-1)), (0, .ref mb), (1, .int (nI p))]) (st' := [.int (-1)]) rfl ?_
    refine mw_if_lt X 92 rfl rfl (fun c7 => ?_) (fun c7 => absurd (by decide) c7)
    exact mw_vret X rfl rfl (fun H h => ⟨rfl, by rw [← hlo2]; exact h⟩)
