set_option maxHeartbeats 4000000 in
set_option maxRecDepth 20000 in
theorem cm_arrNow0 {l : Launch} {Γ : mw_C} {mb : Nat} (hmb : Γ.2.2.2 ≤ mb) {W : Nat → Int32} {ρ : md_R} {H : Heap} {k c : Nat} (hH : md_I Γ mb W ρ H) (hv : iv (c + 25) W) (hk : k < mo_n (W 11)) (he : W (327 + 6 * k) = nI 0) : mw_Cr l Γ mX5_arriveNow 8 0 0 (md_A mb) [.ref mb, .int (nI k)] H (some (.int (nI (mo_why W k)))) (md_I Γ mb (mo_arr W k) ρ) := by
  obtain ⟨e1, p, y, kd, a1, a2, a3, a4, a5, a6, a7, a8, a9⟩ := hv.2.2.1 k hk
  have he1 : e1 = 0 := (nI_eq (by omega) (by omega)).mp (a5.symm.trans he)
  subst he1
  have hn := ml_i11 hv.1
  have hn2 := ml_n24 hv.1
  have hir := iv_rmr hv hk
  refine mw_ofG (P := pX5_arriveNow) (by decide) (md_As hmb) oX5_arriveNow (Nat.le_of_ble_eq_true rfl) ?_
  intro pg e0 sg mg below meth cd X hs
  refine mw_pre (I' := md_I Γ mb W ρ) (fun H1 h1 => by rw [h1]; exact hH) ?_
  refine mw_steps X 7 (pc' := 10) (lv' := [(2, .int ((nI 327) + ((nI 6) * (nI k)))), (0, .ref mb), (1, .int (nI k))]) (st' := [.ref mb]) rfl ?_
  refine mw_get X kf_X5_7.fl kc_5 rfl (v := .ref (mb + 1)) (fun H h => ⟨_, h.1, rfl⟩) ?_
  refine mw_steps X 1 (pc' := 14) (lv' := [(2, .int ((nI 327) + ((nI 6) * (nI k)))), (0, .ref mb), (1, .int (nI k))]) (st' := [.int ((nI 327) + ((nI 6) * (nI k))), .ref (mb + 1)]) rfl ?_
  refine mw_iald X (v := nI 0) (327 + 6 * k) (by simp only [nI_add, pk_mul]) rfl (fun H h => ⟨_, _, h.2.1, by omega, by decide, he⟩) ?_
  refine mw_steps X 2 (pc' := 17) (lv' := [(3, .int (nI 0)), (2, .int ((nI 327) + ((nI 6) * (nI k)))), (0, .ref mb), (1, .int (nI k))]) (st' := [.ref mb]) rfl ?_
  refine mw_get X kf_X5_7.fl kc_5 rfl (v := .ref (mb + 1)) (fun H h => ⟨_, h.1, rfl⟩) ?_
  refine mw_steps X 3 (pc' := 23) (lv' := [(3, .int (nI 0)), (2, .int ((nI 327) + ((nI 6) * (nI k)))), (0, .ref mb), (1, .int (nI k))]) (st' := [.int (((nI 327) + ((nI 6) * (nI k))) + (nI 1)), .ref (mb + 1)]) rfl ?_
  refine mw_iald X (v := nI p) (327 + 6 * k + 1) (by simp only [nI_add, pk_mul]) rfl (fun H h => ⟨_, _, h.2.1, by omega, by decide, a6⟩) ?_
  refine mw_steps X 2 (pc' := 27) (lv' := [(4, .int (nI p)), (3, .int (nI 0)), (2, .int ((nI 327) + ((nI 6) * (nI k)))), (0, .ref mb), (1, .int (nI k))]) (st' := [.ref mb]) rfl ?_
  refine mw_get X kf_X5_7.fl kc_5 rfl (v := .ref (mb + 1)) (fun H h => ⟨_, h.1, rfl⟩) ?_
  refine mw_steps X 3 (pc' := 33) (lv' := [(4, .int (nI p)), (3, .int (nI 0)), (2, .int ((nI 327) + ((nI 6) * (nI k)))), (0, .ref mb), (1, .int (nI k))]) (st' := [.int (((nI 327) + ((nI 6) * (nI k))) + (nI 2)), .ref (mb + 1)]) rfl ?_
  refine mw_iald X (v := W (327 + 6 * k + 2)) (327 + 6 * k + 2) (by simp only [nI_add, pk_mul]) rfl (fun H h => ⟨_, _, h.2.1, by omega, by decide, rfl⟩) ?_
  refine mw_steps X 2 (pc' := 37) (lv' := [(5, .int (W (327 + 6 * k + 2))), (4, .int (nI p)), (3, .int (nI 0)), (2, .int ((nI 327) + ((nI 6) * (nI k)))), (0, .ref mb), (1, .int (nI k))]) (st' := [.ref mb]) rfl ?_
  refine mw_get X kf_X5_7.fl kc_5 rfl (v := .ref (mb + 1)) (fun H h => ⟨_, h.1, rfl⟩) ?_
  refine mw_steps X 3 (pc' := 43) (lv' := [(5, .int (W (327 + 6 * k + 2))), (4, .int (nI p)), (3, .int (nI 0)), (2, .int ((nI 327) + ((nI 6) * (nI k)))), (0, .ref mb), (1, .int (nI k))]) (st' := [.int (((nI 327) + ((nI 6) * (nI k))) + (nI 3)), .ref (mb + 1)]) rfl ?_
  refine mw_iald X (v := nI y) (327 + 6 * k + 3) (by simp only [nI_add, pk_mul]) rfl (fun H h => ⟨_, _, h.2.1, by omega, by decide, a7⟩) ?_
  refine mw_steps X 2 (pc' := 47) (lv' := [(6, .int (nI y)), (5, .int (W (327 + 6 * k + 2))), (4, .int (nI p)), (3, .int (nI 0)), (2, .int ((nI 327) + ((nI 6) * (nI k)))), (0, .ref mb), (1, .int (nI k))]) (st' := [.ref mb]) rfl ?_
  refine mw_get X kf_X5_7.fl kc_5 rfl (v := .ref (mb + 1)) (fun H h => ⟨_, h.1, rfl⟩) ?_
  refine mw_steps X 3 (pc' := 53) (lv' := [(6, .int (nI y)), (5, .int (W (327 + 6 * k + 2))), (4, .int (nI p)), (3, .int (nI 0)), (2, .int ((nI 327) + ((nI 6) * (nI k)))), (0, .ref mb), (1, .int (nI k))]) (st' := [.int (((nI 327) + ((nI 6) * (nI k))) + (nI 4)), .ref (mb + 1)]) rfl ?_
  refine mw_iald X (v := nI kd) (327 + 6 * k + 4) (by simp only [nI_add, pk_mul]) rfl (fun H h => ⟨_, _, h.2.1, by omega, by decide, a8⟩) ?_
  refine mw_steps X 2 (pc' := 57) (lv' := [(7, .int (nI kd)), (6, .int (nI y)), (5, .int (W (327 + 6 * k + 2))), (4, .int (nI p)), (3, .int (nI 0)), (2, .int ((nI 327) + ((nI 6) * (nI k)))), (0, .ref mb), (1, .int (nI k))]) (st' := [.ref mb]) rfl ?_
  refine mw_get X kf_X5_7.fl kc_5 rfl (v := .ref (mb + 1)) (fun H h => ⟨_, h.1, rfl⟩) ?_
  refine mw_steps X 3 (pc' := 63) (lv' := [(7, .int (nI kd)), (6, .int (nI y)), (5, .int (W (327 + 6 * k + 2))), (4, .int (nI p)), (3, .int (nI 0)), (2, .int ((nI 327) + ((nI 6) * (nI k)))), (0, .ref mb), (1, .int (nI k))]) (st' := [.int (((nI 327) + ((nI 6) * (nI k))) + (nI 5)), .ref (mb + 1)]) rfl ?_
  refine mw_iald X (v := W (327 + 6 * k + 5)) (327 + 6 * k + 5) (by simp only [nI_add, pk_mul]) rfl (fun H h => ⟨_, _, h.2.1, by omega, by decide, rfl⟩) ?_
  refine mw_steps X 6 (pc' := 75) (lv' := [(8, .int (W (327 + 6 * k + 5))), (7, .int (nI kd)), (6, .int (nI y)), (5, .int (W (327 + 6 * k + 2))), (4, .int (nI p)), (3, .int (nI 0)), (2, .int ((nI 327) + ((nI 6) * (nI k)))), (0, .ref mb), (1, .int (nI k))]) (st' := [.int (nI k), .int (nI 11), .int (nI 6), .int (nI 327), .ref mb]) rfl ?_
  refine mw_cV4v X kd_X5_removeAt kv_X5_removeAt kl_X5_29 (ci := 5) rfl rfl (Nat.le_of_ble_eq_true rfl) ⟨Nat.le_of_ble_eq_true rfl, Nat.le_of_ble_eq_true rfl⟩ ⟨Nat.le_of_ble_eq_true rfl, Nat.le_of_ble_eq_true rfl⟩ (fun _ h => h) (fun H h => ⟨⟨_, h.1⟩, cm_removeAt hmb h (f := 327) (z := 6) (q := 11) hn (by omega) (by omega) (by omega) (by omega) (by omega)⟩) ?_
  refine mw_steps X 1 (pc' := 79) (lv' := [(8, .int (W (327 + 6 * k + 5))), (7, .int (nI kd)), (6, .int (nI y)), (5, .int (W (327 + 6 * k + 2))), (4, .int (nI p)), (3, .int (nI 0)), (2, .int ((nI 327) + ((nI 6) * (nI k)))), (0, .ref mb), (1, .int (nI k))]) (st' := [.int (nI 0)]) rfl ?_
  refine mw_if_ne X 99 rfl rfl (fun c79 => absurd (by decide) c79) (fun c79 => ?_)
  refine mw_steps X 6 (pc' := 93) (lv' := [(8, .int (W (327 + 6 * k + 5))), (7, .int (nI kd)), (6, .int (nI y)), (5, .int (W (327 + 6 * k + 2))), (4, .int (nI p)), (3, .int (nI 0)), (2, .int ((nI 327) + ((nI 6) * (nI k)))), (0, .ref mb), (1, .int (nI k))]) (st' := [.int (W (327 + 6 * k + 5)), .int (nI kd), .int (nI y), .int (W (327 + 6 * k + 2)), .int (nI p), .ref mb]) rfl ?_
  refine mw_cV5r X kd_X5_takenByHouse kv_X5_takenByHouse kl_X5_169 (ci := 5) rfl rfl (Nat.le_of_ble_eq_true rfl) ⟨Nat.le_of_ble_eq_true rfl, Nat.le_of_ble_eq_true rfl⟩ ⟨Nat.le_of_ble_eq_true rfl, Nat.le_of_ble_eq_true rfl⟩ (fun _ h => h) (fun H h => ⟨⟨_, h.1⟩, cm_house hmb h (c := c) hir a2 a3 a4 a9⟩) ?_
  obtain ⟨wy, hwy⟩ : ∃ wy, wy = mo_houseWhy (mo_rm W 327 6 11 k) (W (327 + 6 * k + 2)) y := ⟨_, rfl⟩
  obtain ⟨V, hV⟩ : ∃ V, V = mo_house (mo_rm W 327 6 11 k) p (W (327 + 6 * k + 2)) y kd (W (327 + 6 * k + 5)) := ⟨_, rfl⟩
  rw [← hwy, ← hV]
  have hw3 : wy ≤ 3 := by rw [hwy]; exact ml_hw3 _ _ _
  have hw1 : wy = mo_why W k := by rw [ml_why_h he a6 a7 a2 a3]; exact hwy
  have hV1 : V = mo_taken W k := by rw [ml_taken_h he a6 a7 a8 a2 a3 a4]; exact hV
  refine mw_steps X 3 (pc' := 114) (lv' := [(9, .int (nI wy)), (8, .int (W (327 + 6 * k + 5))), (7, .int (nI kd)), (6, .int (nI y)), (5, .int (W (327 + 6 * k + 2))), (4, .int (nI p)), (3, .int (nI 0)), (2, .int ((nI 327) + ((nI 6) * (nI k)))), (0, .ref mb), (1, .int (nI k))]) (st' := [.ref mb]) rfl ?_
  refine mw_get X kf_X5_7.fl kc_5 rfl (v := .ref (mb + 1)) (fun H h => ⟨_, h.1, rfl⟩) ?_
  refine mw_steps X 4 (pc' := 123) (lv' := [(9, .int (nI wy)), (8, .int (W (327 + 6 * k + 5))), (7, .int (nI kd)), (6, .int (nI y)), (5, .int (W (327 + 6 * k + 2))), (4, .int (nI p)), (3, .int (nI 0)), (2, .int ((nI 327) + ((nI 6) * (nI k)))), (0, .ref mb), (1, .int (nI k))]) (st' := [.int ((nI 6) + (nI wy)), .ref (mb + 1), .int ((nI 6) + (nI wy)), .ref (mb + 1)]) rfl ?_
  refine mw_iald X (v := V (6 + wy)) (6 + wy) (by simp only [nI_add, pk_mul]) rfl (fun H h => ⟨_, _, h.2.1, by omega, by decide, rfl⟩) ?_
  refine mw_steps X 1 (pc' := 126) (lv' := [(9, .int (nI wy)), (8, .int (W (327 + 6 * k + 5))), (7, .int (nI kd)), (6, .int (nI y)), (5, .int (W (327 + 6 * k + 2))), (4, .int (nI p)), (3, .int (nI 0)), (2, .int ((nI 327) + ((nI 6) * (nI k)))), (0, .ref mb), (1, .int (nI k))]) (st' := [.int (nI wy), .int (V (6 + wy)), .int ((nI 6) + (nI wy)), .ref (mb + 1)]) rfl ?_
  refine mw_if_le X 133 rfl rfl (fun c126 => ?_) (fun c126 => ?_)
  · have hw0 : wy = 0 := by rw [← nI_0, nI_leI (by omega) (by omega)] at c126; omega
    refine mw_steps X 2 (pc' := 135) (lv' := [(9, .int (nI wy)), (8, .int (W (327 + 6 * k + 5))), (7, .int (nI kd)), (6, .int (nI y)), (5, .int (W (327 + 6 * k + 2))), (4, .int (nI p)), (3, .int (nI 0)), (2, .int ((nI 327) + ((nI 6) * (nI k)))), (0, .ref mb), (1, .int (nI k))]) (st' := [.int ((V (6 + wy)) + (nI 0)), .int ((nI 6) + (nI wy)), .ref (mb + 1)]) rfl ?_
    refine mw_iast X (I1 := md_I Γ mb (upd V (6 + wy) ((V (6 + wy)) + (nI 0))) ρ) (6 + wy) (by simp only [nI_add, pk_mul]) rfl (fun H h => ⟨md_A1, _, _, h.2.1, by omega, by decide, fun H1 o c => h.stw o c⟩) ?_
    refine mw_steps X 1 (pc' := 138) (lv' := [(9, .int (nI wy)), (8, .int (W (327 + 6 * k + 5))), (7, .int (nI kd)), (6, .int (nI y)), (5, .int (W (327 + 6 * k + 2))), (4, .int (nI p)), (3, .int (nI 0)), (2, .int ((nI 327) + ((nI 6) * (nI k)))), (0, .ref mb), (1, .int (nI k))]) (st' := [.int (nI wy)]) rfl ?_
    exact mw_iret X rfl rfl (fun H h => ⟨by rw [← hw1], by rw [ml_arr hw1 hV1 (nI 0) (by first | exact Or.inl ⟨hw0, rfl⟩ | exact Or.inr ⟨hw0, rfl⟩)]; exact h⟩)
  · have hw0 : ¬ wy = 0 := by rw [← nI_0, nI_leI (by omega) (by omega)] at c126; omega
    refine mw_steps X 3 (pc' := 135) (lv' := [(9, .int (nI wy)), (8, .int (W (327 + 6 * k + 5))), (7, .int (nI kd)), (6, .int (nI y)), (5, .int (W (327 + 6 * k + 2))), (4, .int (nI p)), (3, .int (nI 0)), (2, .int ((nI 327) + ((nI 6) * (nI k)))), (0, .ref mb), (1, .int (nI k))]) (st' := [.int ((V (6 + wy)) + (nI 1)), .int ((nI 6) + (nI wy)), .ref (mb + 1)]) rfl ?_
    refine mw_iast X (I1 := md_I Γ mb (upd V (6 + wy) ((V (6 + wy)) + (nI 1))) ρ) (6 + wy) (by simp only [nI_add, pk_mul]) rfl (fun H h => ⟨md_A1, _, _, h.2.1, by omega, by decide, fun H1 o c => h.stw o c⟩) ?_
    refine mw_steps X 1 (pc' := 138) (lv' := [(9, .int (nI wy)), (8, .int (W (327 + 6 * k + 5))), (7, .int (nI kd)), (6, .int (nI y)), (5, .int (W (327 + 6 * k + 2))), (4, .int (nI p)), (3, .int (nI 0)), (2, .int ((nI 327) + ((nI 6) * (nI k)))), (0, .ref mb), (1, .int (nI k))]) (st' := [.int (nI wy)]) rfl ?_
    exact mw_iret X rfl rfl (fun H h => ⟨by rw [← hw1], by rw [ml_arr hw1 hV1 (nI 1) (by first | exact Or.inl ⟨hw0, rfl⟩ | exact Or.inr ⟨hw0, rfl⟩)]; exact h⟩)
set_option maxHeartbeats 4000000 in
set_option maxRecDepth 20000 in
theorem cm_arrNow1 {l : Launch} {Γ : mw_C} {mb : Nat} (hmb : Γ.2.2.2 ≤ mb) {W : Nat → Int32} {ρ : md_R} {H : Heap} {k c : Nat} (hH : md_I Γ mb W ρ H) (hv : iv (c + 25) W) (hk : k < mo_n (W 11)) (he : W (327 + 6 * k) = nI 1) : mw_Cr l Γ mX5_arriveNow 8 0 0 (md_A mb) [.ref mb, .int (nI k)] H (some (.int (nI (mo_why W k)))) (md_I Γ mb (mo_arr W k) ρ) := by
  obtain ⟨e1, p, y, kd, a1, a2, a3, a4, a5, a6, a7, a8, a9⟩ := hv.2.2.1 k hk
  have he1 : e1 = 1 := (nI_eq (by omega) (by omega)).mp (a5.symm.trans he)
  subst he1
  have hn := ml_i11 hv.1
  have hn2 := ml_n24 hv.1
  have hir := iv_rmr hv hk
  refine mw_ofG (P := pX5_arriveNow) (by decide) (md_As hmb) oX5_arriveNow (Nat.le_of_ble_eq_true rfl) ?_
  intro pg e0 sg mg below meth cd X hs
  refine mw_pre (I' := md_I Γ mb W ρ) (fun H1 h1 => by rw [h1]; exact hH) ?_
  refine mw_steps X 7 (pc' := 10) (lv' := [(2, .int ((nI 327) + ((nI 6) * (nI k)))), (0, .ref mb), (1, .int (nI k))]) (st' := [.ref mb]) rfl ?_
  refine mw_get X kf_X5_7.fl kc_5 rfl (v := .ref (mb + 1)) (fun H h => ⟨_, h.1, rfl⟩) ?_
  refine mw_steps X 1 (pc' := 14) (lv' := [(2, .int ((nI 327) + ((nI 6) * (nI k)))), (0, .ref mb), (1, .int (nI k))]) (st' := [.int ((nI 327) + ((nI 6) * (nI k))), .ref (mb + 1)]) rfl ?_
  refine mw_iald X (v := nI 1) (327 + 6 * k) (by simp only [nI_add, pk_mul]) rfl (fun H h => ⟨_, _, h.2.1, by omega, by decide, he⟩) ?_
  refine mw_steps X 2 (pc' := 17) (lv' := [(3, .int (nI 1)), (2, .int ((nI 327) + ((nI 6) * (nI k)))), (0, .ref mb), (1, .int (nI k))]) (st' := [.ref mb]) rfl ?_
  refine mw_get X kf_X5_7.fl kc_5 rfl (v := .ref (mb + 1)) (fun H h => ⟨_, h.1, rfl⟩) ?_
  refine mw_steps X 3 (pc' := 23) (lv' := [(3, .int (nI 1)), (2, .int ((nI 327) + ((nI 6) * (nI k)))), (0, .ref mb), (1, .int (nI k))]) (st' := [.int (((nI 327) + ((nI 6) * (nI k))) + (nI 1)), .ref (mb + 1)]) rfl ?_
  refine mw_iald X (v := nI p) (327 + 6 * k + 1) (by simp only [nI_add, pk_mul]) rfl (fun H h => ⟨_, _, h.2.1, by omega, by decide, a6⟩) ?_
  refine mw_steps X 2 (pc' := 27) (lv' := [(4, .int (nI p)), (3, .int (nI 1)), (2, .int ((nI 327) + ((nI 6) * (nI k)))), (0, .ref mb), (1, .int (nI k))]) (st' := [.ref mb]) rfl ?_
  refine mw_get X kf_X5_7.fl kc_5 rfl (v := .ref (mb + 1)) (fun H h => ⟨_, h.1, rfl⟩) ?_
  refine mw_steps X 3 (pc' := 33) (lv' := [(4, .int (nI p)), (3, .int (nI 1)), (2, .int ((nI 327) + ((nI 6) * (nI k)))), (0, .ref mb), (1, .int (nI k))]) (st' := [.int (((nI 327) + ((nI 6) * (nI k))) + (nI 2)), .ref (mb + 1)]) rfl ?_
  refine mw_iald X (v := W (327 + 6 * k + 2)) (327 + 6 * k + 2) (by simp only [nI_add, pk_mul]) rfl (fun H h => ⟨_, _, h.2.1, by omega, by decide, rfl⟩) ?_
  refine mw_steps X 2 (pc' := 37) (lv' := [(5, .int (W (327 + 6 * k + 2))), (4, .int (nI p)), (3, .int (nI 1)), (2, .int ((nI 327) + ((nI 6) * (nI k)))), (0, .ref mb), (1, .int (nI k))]) (st' := [.ref mb]) rfl ?_
  refine mw_get X kf_X5_7.fl kc_5 rfl (v := .ref (mb + 1)) (fun H h => ⟨_, h.1, rfl⟩) ?_
  refine mw_steps X 3 (pc' := 43) (lv' := [(5, .int (W (327 + 6 * k + 2))), (4, .int (nI p)), (3, .int (nI 1)), (2, .int ((nI 327) + ((nI 6) * (nI k)))), (0, .ref mb), (1, .int (nI k))]) (st' := [.int (((nI 327) + ((nI 6) * (nI k))) + (nI 3)), .ref (mb + 1)]) rfl ?_
  refine mw_iald X (v := nI y) (327 + 6 * k + 3) (by simp only [nI_add, pk_mul]) rfl (fun H h => ⟨_, _, h.2.1, by omega, by decide, a7⟩) ?_
  refine mw_steps X 2 (pc' := 47) (lv' := [(6, .int (nI y)), (5, .int (W (327 + 6 * k + 2))), (4, .int (nI p)), (3, .int (nI 1)), (2, .int ((nI 327) + ((nI 6) * (nI k)))), (0, .ref mb), (1, .int (nI k))]) (st' := [.ref mb]) rfl ?_
  refine mw_get X kf_X5_7.fl kc_5 rfl (v := .ref (mb + 1)) (fun H h => ⟨_, h.1, rfl⟩) ?_
  refine mw_steps X 3 (pc' := 53) (lv' := [(6, .int (nI y)), (5, .int (W (327 + 6 * k + 2))), (4, .int (nI p)), (3, .int (nI 1)), (2, .int ((nI 327) + ((nI 6) * (nI k)))), (0, .ref mb), (1, .int (nI k))]) (st' := [.int (((nI 327) + ((nI 6) * (nI k))) + (nI 4)), .ref (mb + 1)]) rfl ?_
  refine mw_iald X (v := nI kd) (327 + 6 * k + 4) (by simp only [nI_add, pk_mul]) rfl (fun H h => ⟨_, _, h.2.1, by omega, by decide, a8⟩) ?_
  refine mw_steps X 2 (pc' := 57) (lv' := [(7, .int (nI kd)), (6, .int (nI y)), (5, .int (W (327 + 6 * k + 2))), (4, .int (nI p)), (3, .int (nI 1)), (2, .int ((nI 327) + ((nI 6) * (nI k)))), (0, .ref mb), (1, .int (nI k))]) (st' := [.ref mb]) rfl ?_
  refine mw_get X kf_X5_7.fl kc_5 rfl (v := .ref (mb + 1)) (fun H h => ⟨_, h.1, rfl⟩) ?_
  refine mw_steps X 3 (pc' := 63) (lv' := [(7, .int (nI kd)), (6, .int (nI y)), (5, .int (W (327 + 6 * k + 2))), (4, .int (nI p)), (3, .int (nI 1)), (2, .int ((nI 327) + ((nI 6) * (nI k)))), (0, .ref mb), (1, .int (nI k))]) (st' := [.int (((nI 327) + ((nI 6) * (nI k))) + (nI 5)), .ref (mb + 1)]) rfl ?_
  refine mw_iald X (v := W (327 + 6 * k + 5)) (327 + 6 * k + 5) (by simp only [nI_add, pk_mul]) rfl (fun H h => ⟨_, _, h.2.1, by omega, by decide, rfl⟩) ?_
  refine mw_steps X 6 (pc' := 75) (lv' := [(8, .int (W (327 + 6 * k + 5))), (7, .int (nI kd)), (6, .int (nI y)), (5, .int (W (327 + 6 * k + 2))), (4, .int (nI p)), (3, .int (nI 1)), (2, .int ((nI 327) + ((nI 6) * (nI k)))), (0, .ref mb), (1, .int (nI k))]) (st' := [.int (nI k), .int (nI 11), .int (nI 6), .int (nI 327), .ref mb]) rfl ?_
  refine mw_cV4v X kd_X5_removeAt kv_X5_removeAt kl_X5_29 (ci := 5) rfl rfl (Nat.le_of_ble_eq_true rfl) ⟨Nat.le_of_ble_eq_true rfl, Nat.le_of_ble_eq_true rfl⟩ ⟨Nat.le_of_ble_eq_true rfl, Nat.le_of_ble_eq_true rfl⟩ (fun _ h => h) (fun H h => ⟨⟨_, h.1⟩, cm_removeAt hmb h (f := 327) (z := 6) (q := 11) hn (by omega) (by omega) (by omega) (by omega) (by omega)⟩) ?_
  refine mw_steps X 1 (pc' := 79) (lv' := [(8, .int (W (327 + 6 * k + 5))), (7, .int (nI kd)), (6, .int (nI y)), (5, .int (W (327 + 6 * k + 2))), (4, .int (nI p)), (3, .int (nI 1)), (2, .int ((nI 327) + ((nI 6) * (nI k)))), (0, .ref mb), (1, .int (nI k))]) (st' := [.int (nI 1)]) rfl ?_
  refine mw_if_ne X 99 rfl rfl (fun c79 => ?_) (fun c79 => absurd c79 (by decide))
  refine mw_steps X 5 (pc' := 108) (lv' := [(8, .int (W (327 + 6 * k + 5))), (7, .int (nI kd)), (6, .int (nI y)), (5, .int (W (327 + 6 * k + 2))), (4, .int (nI p)), (3, .int (nI 1)), (2, .int ((nI 327) + ((nI 6) * (nI k)))), (0, .ref mb), (1, .int (nI k))]) (st' := [.int (W (327 + 6 * k + 5)), .int (nI kd), .int (nI y), .int (nI p), .ref mb]) rfl ?_
  refine mw_cV4r X kd_X5_takenByGuest kv_X5_takenByGuest kl_X5_173 (ci := 5) rfl rfl (Nat.le_of_ble_eq_true rfl) ⟨Nat.le_of_ble_eq_true rfl, Nat.le_of_ble_eq_true rfl⟩ ⟨Nat.le_of_ble_eq_true rfl, Nat.le_of_ble_eq_true rfl⟩ (fun _ h => h) (fun H h => ⟨⟨_, h.1⟩, cm_guest hmb h (c := c + 24) hir a2 a3 a4 a9⟩) ?_
  obtain ⟨wy, hwy⟩ : ∃ wy, wy = mo_guestWhy (mo_rm W 327 6 11 k) p y := ⟨_, rfl⟩
  obtain ⟨V, hV⟩ : ∃ V, V = mo_guest (mo_rm W 327 6 11 k) p y kd (W (327 + 6 * k + 5)) := ⟨_, rfl⟩
  rw [← hwy, ← hV]
  have hw3 : wy ≤ 3 := by rw [hwy]; exact ml_gw3 _ _ _
  have hw1 : wy = mo_why W k := by rw [ml_why_g he a6 a7 a2 a3]; exact hwy
  have hV1 : V = mo_taken W k := by rw [ml_taken_g he a6 a7 a8 a2 a3 a4]; exact hV
  refine mw_steps X 2 (pc' := 114) (lv' := [(9, .int (nI wy)), (8, .int (W (327 + 6 * k + 5))), (7, .int (nI kd)), (6, .int (nI y)), (5, .int (W (327 + 6 * k + 2))), (4, .int (nI p)), (3, .int (nI 1)), (2, .int ((nI 327) + ((nI 6) * (nI k)))), (0, .ref mb), (1, .int (nI k))]) (st' := [.ref mb]) rfl ?_
  refine mw_get X kf_X5_7.fl kc_5 rfl (v := .ref (mb + 1)) (fun H h => ⟨_, h.1, rfl⟩) ?_
  refine mw_steps X 4 (pc' := 123) (lv' := [(9, .int (nI wy)), (8, .int (W (327 + 6 * k + 5))), (7, .int (nI kd)), (6, .int (nI y)), (5, .int (W (327 + 6 * k + 2))), (4, .int (nI p)), (3, .int (nI 1)), (2, .int ((nI 327) + ((nI 6) * (nI k)))), (0, .ref mb), (1, .int (nI k))]) (st' := [.int ((nI 6) + (nI wy)), .ref (mb + 1), .int ((nI 6) + (nI wy)), .ref (mb + 1)]) rfl ?_
  refine mw_iald X (v := V (6 + wy)) (6 + wy) (by simp only [nI_add, pk_mul]) rfl (fun H h => ⟨_, _, h.2.1, by omega, by decide, rfl⟩) ?_
  refine mw_steps X 1 (pc' := 126) (lv' := [(9, .int (nI wy)), (8, .int (W (327 + 6 * k + 5))), (7, .int (nI kd)), (6, .int (nI y)), (5, .int (W (327 + 6 * k + 2))), (4, .int (nI p)), (3, .int (nI 1)), (2, .int ((nI 327) + ((nI 6) * (nI k)))), (0, .ref mb), (1, .int (nI k))]) (st' := [.int (nI wy), .int (V (6 + wy)), .int ((nI 6) + (nI wy)), .ref (mb + 1)]) rfl ?_
  refine mw_if_le X 133 rfl rfl (fun c126 => ?_) (fun c126 => ?_)
  · have hw0 : wy = 0 := by rw [← nI_0, nI_leI (by omega) (by omega)] at c126; omega
    refine mw_steps X 2 (pc' := 135) (lv' := [(9, .int (nI wy)), (8, .int (W (327 + 6 * k + 5))), (7, .int (nI kd)), (6, .int (nI y)), (5, .int (W (327 + 6 * k + 2))), (4, .int (nI p)), (3, .int (nI 1)), (2, .int ((nI 327) + ((nI 6) * (nI k)))), (0, .ref mb), (1, .int (nI k))]) (st' := [.int ((V (6 + wy)) + (nI 0)), .int ((nI 6) + (nI wy)), .ref (mb + 1)]) rfl ?_
    refine mw_iast X (I1 := md_I Γ mb (upd V (6 + wy) ((V (6 + wy)) + (nI 0))) ρ) (6 + wy) (by simp only [nI_add, pk_mul]) rfl (fun H h => ⟨md_A1, _, _, h.2.1, by omega, by decide, fun H1 o c => h.stw o c⟩) ?_
    refine mw_steps X 1 (pc' := 138) (lv' := [(9, .int (nI wy)), (8, .int (W (327 + 6 * k + 5))), (7, .int (nI kd)), (6, .int (nI y)), (5, .int (W (327 + 6 * k + 2))), (4, .int (nI p)), (3, .int (nI 1)), (2, .int ((nI 327) + ((nI 6) * (nI k)))), (0, .ref mb), (1, .int (nI k))]) (st' := [.int (nI wy)]) rfl ?_
    exact mw_iret X rfl rfl (fun H h => ⟨by rw [← hw1], by rw [ml_arr hw1 hV1 (nI 0) (by first | exact Or.inl ⟨hw0, rfl⟩ | exact Or.inr ⟨hw0, rfl⟩)]; exact h⟩)
  · have hw0 : ¬ wy = 0 := by rw [← nI_0, nI_leI (by omega) (by omega)] at c126; omega
    refine mw_steps X 3 (pc' := 135) (lv' := [(9, .int (nI wy)), (8, .int (W (327 + 6 * k + 5))), (7, .int (nI kd)), (6, .int (nI y)), (5, .int (W (327 + 6 * k + 2))), (4, .int (nI p)), (3, .int (nI 1)), (2, .int ((nI 327) + ((nI 6) * (nI k)))), (0, .ref mb), (1, .int (nI k))]) (st' := [.int ((V (6 + wy)) + (nI 1)), .int ((nI 6) + (nI wy)), .ref (mb + 1)]) rfl ?_
    refine mw_iast X (I1 := md_I Γ mb (upd V (6 + wy) ((V (6 + wy)) + (nI 1))) ρ) (6 + wy) (by simp only [nI_add, pk_mul]) rfl (fun H h => ⟨md_A1, _, _, h.2.1, by omega, by decide, fun H1 o c => h.stw o c⟩) ?_
    refine mw_steps X 1 (pc' := 138) (lv' := [(9, .int (nI wy)), (8, .int (W (327 + 6 * k + 5))), (7, .int (nI kd)), (6, .int (nI y)), (5, .int (W (327 + 6 * k + 2))), (4, .int (nI p)), (3, .int (nI 1)), (2, .int ((nI 327) + ((nI 6) * (nI k)))), (0, .ref mb), (1, .int (nI k))]) (st' := [.int (nI wy)]) rfl ?_
    exact mw_iret X rfl rfl (fun H h => ⟨by rw [← hw1], by rw [ml_arr hw1 hV1 (nI 1) (by first | exact Or.inl ⟨hw0, rfl⟩ | exact Or.inr ⟨hw0, rfl⟩)]; exact h⟩)
set_option maxHeartbeats 4000000 in
set_option maxRecDepth 20000 in
theorem cm_arrive {l : Launch} {Γ : mw_C} {mb : Nat} (hmb : Γ.2.2.2 ≤ mb) {W : Nat → Int32} {ρ : md_R} {H : Heap} {c : Nat} {x : Int32} (hH : md_I Γ mb W ρ H) (hv : iv (c + 25) W) : mw_Cr l Γ mX5_arrive 9 0 0 (md_A mb) [.ref mb, .int x] H (some (.int (op_arrive W x).1)) (md_I Γ mb (op_arrive W x).2 ρ) := by
  have hn2 := ml_n24 hv.1
  refine mw_ofG (P := pX5_arrive) (by decide) (md_As hmb) oX5_arrive (Nat.le_of_ble_eq_true rfl) ?_
  intro pg e0 sg mg below meth cd X hs
  refine mw_pre (I' := md_I Γ mb W ρ) (fun H1 h1 => by rw [h1]; exact hH) ?_
  refine mw_steps X 2 (pc' := 2) (lv' := [(0, .ref mb), (1, .int x)]) (st' := [.int x, .ref mb]) rfl ?_
  refine mw_cV1r X kd_X5_isLetter kv_X5_isLetter kl_X5_177 (ci := 5) rfl rfl (Nat.le_of_ble_eq_true rfl) ⟨Nat.le_of_ble_eq_true rfl, Nat.le_of_ble_eq_true rfl⟩ ⟨Nat.le_of_ble_eq_true rfl, Nat.le_of_ble_eq_true rfl⟩ (fun _ h => h) (fun H h => ⟨⟨_, h.1⟩, cm_isLetter hmb h hv.1⟩) ?_
  refine mw_if_eq X 16 rfl rfl (fun c5 => ?_) (fun c5 => ?_)
  · refine mw_ldc X kk_X5_147 rfl ?_
    have hop : op_arrive W x = ((-1000000001), W) := by unfold op_arrive; rw [if_neg (by rw [mo_b_z c5]; decide)]
    exact mw_iret X rfl rfl (fun H h => ⟨by rw [hop], by rw [hop]; exact h⟩)
  · obtain ⟨k, hk, rfl⟩ := mo_bl_t (mo_b_nz c5) (by omega)
    refine mw_steps X 2 (pc' := 10) (lv' := [(0, .ref mb), (1, .int (nI k))]) (st' := [.int (nI k), .ref mb]) rfl ?_
    refine mw_cV1r X kd_X5_arriveNow kv_X5_arriveNow kl_X5_180 (ci := 5) rfl rfl (Nat.le_of_ble_eq_true rfl) ⟨Nat.le_of_ble_eq_true rfl, Nat.le_of_ble_eq_true rfl⟩ ⟨Nat.le_of_ble_eq_true rfl, Nat.le_of_ble_eq_true rfl⟩ (fun _ h => h) (fun H h => ⟨⟨_, h.1⟩, (by obtain ⟨e1, p, y, kd, a1, a2, a3, a4, a5, -⟩ := hv.2.2.1 k hk; rcases (show e1 = 0 ∨ e1 = 1 by omega) with rfl | rfl; exact cm_arrNow0 hmb h hv hk a5; exact cm_arrNow1 hmb h hv hk a5)⟩) ?_
    refine mw_steps X 1 (pc' := 18) (lv' := [(0, .ref mb), (1, .int (nI k))]) (st' := [.int (nI (mo_why W k))]) rfl ?_
    have hop : op_arrive W (nI k) = (nI (mo_why W k), mo_arr W k) := by unfold op_arrive; rw [if_pos (mo_bl_n hk (by omega)), ml_n (by omega)]
    exact mw_iret X rfl rfl (fun H h => ⟨by rw [hop], by rw [hop]; exact h⟩)
set_option maxHeartbeats 4000000 in
set_option maxRecDepth 20000 in
theorem cm_lose {l : Launch} {Γ : mw_C} {mb : Nat} (hmb : Γ.2.2.2 ≤ mb) {W : Nat → Int32} {ρ : md_R} {H : Heap} {c : Nat} {x : Int32} (hH : md_I Γ mb W ρ H) (hv : iv c W) : mw_Cr l Γ mX5_lose 3 0 0 (md_A mb) [.ref mb, .int x] H (some (.int (op_lose W x).1)) (md_I Γ mb (op_lose W x).2 ρ) := by
  have hn := ml_i11 hv.1
  have hn2 := ml_n24 hv.1
  refine mw_ofG (P := pX5_lose) (by decide) (md_As hmb) oX5_lose (Nat.le_of_ble_eq_true rfl) ?_
  intro pg e0 sg mg below meth cd X hs
  refine mw_pre (I' := md_I Γ mb W ρ) (fun H1 h1 => by rw [h1]; exact hH) ?_
  refine mw_steps X 2 (pc' := 2) (lv' := [(0, .ref mb), (1, .int x)]) (st' := [.int x, .ref mb]) rfl ?_
  refine mw_cV1r X kd_X5_isLetter kv_X5_isLetter kl_X5_177 (ci := 5) rfl rfl (Nat.le_of_ble_eq_true rfl) ⟨Nat.le_of_ble_eq_true rfl, Nat.le_of_ble_eq_true rfl⟩ ⟨Nat.le_of_ble_eq_true rfl, Nat.le_of_ble_eq_true rfl⟩ (fun _ h => h) (fun H h => ⟨⟨_, h.1⟩, cm_isLetter hmb h hv.1⟩) ?_
  refine mw_if_ne X 11 rfl rfl (fun c5 => ?_) (fun c5 => ?_)
  · obtain ⟨k, hk, rfl⟩ := mo_bl_t (mo_b_nz c5) (by omega)
    refine mw_steps X 5 (pc' := 20) (lv' := [(0, .ref mb), (1, .int (nI k))]) (st' := [.int (nI k), .int (nI 11), .int (nI 6), .int (nI 327), .ref mb]) rfl ?_
    refine mw_cV4v X kd_X5_removeAt kv_X5_removeAt kl_X5_29 (ci := 5) rfl rfl (Nat.le_of_ble_eq_true rfl) ⟨Nat.le_of_ble_eq_true rfl, Nat.le_of_ble_eq_true rfl⟩ ⟨Nat.le_of_ble_eq_true rfl, Nat.le_of_ble_eq_true rfl⟩ (fun _ h => h) (fun H h => ⟨⟨_, h.1⟩, cm_removeAt hmb h (f := 327) (z := 6) (q := 11) hn (by omega) (by omega) (by omega) (by omega) (by omega)⟩) ?_
    have h10 : mo_rm W 327 6 11 k 10 = W 10 := ml_rmr_out hn (by omega) hk (by omega) (by omega)
    have h11 : mo_rm W 327 6 11 k 11 = nI (mo_n (W 11) - 1) := ml_rmr_q hn (by omega)
    refine mw_steps X 1 (pc' := 24) (lv' := [(0, .ref mb), (1, .int (nI k))]) (st' := [.ref mb]) rfl ?_
    refine mw_get X kf_X5_7.fl kc_5 rfl (v := .ref (mb + 1)) (fun H h => ⟨_, h.1, rfl⟩) ?_
    refine mw_steps X 2 (pc' := 30) (lv' := [(0, .ref mb), (1, .int (nI k))]) (st' := [.int (nI 10), .ref (mb + 1), .int (nI 10), .ref (mb + 1)]) rfl ?_
    refine mw_iald X (v := W 10) (10) rfl rfl (fun H h => ⟨_, _, h.2.1, by omega, by decide, h10⟩) ?_
    refine mw_steps X 2 (pc' := 33) (lv' := [(0, .ref mb), (1, .int (nI k))]) (st' := [.int ((W 10) + (nI 1)), .int (nI 10), .ref (mb + 1)]) rfl ?_
    refine mw_iast X (I1 := md_I Γ mb (upd (mo_rm W 327 6 11 k) (10) ((W 10) + (nI 1))) ρ) (10) rfl rfl (fun H h => ⟨md_A1, _, _, h.2.1, by omega, by decide, fun H1 o c => h.stw o c⟩) ?_
    refine mw_steps X 1 (pc' := 35) (lv' := [(0, .ref mb), (1, .int (nI k))]) (st' := [.ref mb]) rfl ?_
    refine mw_get X kf_X5_7.fl kc_5 rfl (v := .ref (mb + 1)) (fun H h => ⟨_, h.1, rfl⟩) ?_
    refine mw_steps X 1 (pc' := 40) (lv' := [(0, .ref mb), (1, .int (nI k))]) (st' := [.int (nI 11), .ref (mb + 1)]) rfl ?_
    refine mw_iald X (v := nI (mo_n (W 11) - 1)) (11) rfl rfl (fun H h => ⟨_, _, h.2.1, by omega, by decide, (by simp (disch := omega) only [pk_un]; exact h11)⟩) ?_
    have hop : op_lose W (nI k) = (nI (mo_n (W 11) - 1), upd (mo_rm W 327 6 11 k) (10) ((W 10) + (nI 1))) := by unfold op_lose mo_lose; rw [if_pos (mo_bl_n hk (by omega)), ml_n (by omega)]
    exact mw_iret X rfl rfl (fun H h => ⟨by rw [hop], by rw [hop]; exact h⟩)
  · refine mw_ldc X kk_X5_147 rfl ?_
    have hop : op_lose W x = ((-1000000001), W) := by unfold op_lose; rw [if_neg (by rw [mo_b_z c5]; decide)]
    exact mw_iret X rfl rfl (fun H h => ⟨by rw [hop], by rw [hop]; exact h⟩)
set_option maxHeartbeats 4000000 in
set_option maxRecDepth 20000 in
theorem cm_twice {l : Launch} {Γ : mw_C} {mb : Nat} (hmb : Γ.2.2.2 ≤ mb) {W : Nat → Int32} {ρ : md_R} {H : Heap} {c : Nat} {x : Int32} (hH : md_I Γ mb W ρ H) (hv : iv c W) : mw_Cr l Γ mX5_twice 3 0 0 (md_A mb) [.ref mb, .int x] H (some (.int (op_twice W x).1)) (md_I Γ mb (op_twice W x).2 ρ) := by
  obtain ⟨n, hn2, hn⟩ := hv.1.1
  have hnn : mo_n (W 11) = n := by rw [hn, ml_n (by omega)]
  refine mw_ofG (P := pX5_twice) (by decide) (md_As hmb) oX5_twice (Nat.le_of_ble_eq_true rfl) ?_
  intro pg e0 sg mg below meth cd X hs
  refine mw_pre (I' := md_I Γ mb W ρ) (fun H1 h1 => by rw [h1]; exact hH) ?_
  refine mw_steps X 2 (pc' := 2) (lv' := [(0, .ref mb), (1, .int x)]) (st' := [.int x, .ref mb]) rfl ?_
  refine mw_cV1r X kd_X5_isLetter kv_X5_isLetter kl_X5_177 (ci := 5) rfl rfl (Nat.le_of_ble_eq_true rfl) ⟨Nat.le_of_ble_eq_true rfl, Nat.le_of_ble_eq_true rfl⟩ ⟨Nat.le_of_ble_eq_true rfl, Nat.le_of_ble_eq_true rfl⟩ (fun _ h => h) (fun H h => ⟨⟨_, h.1⟩, cm_isLetter hmb h hv.1⟩) ?_
  refine mw_if_ne X 11 rfl rfl (fun c5 => ?_) (fun c5 => ?_)
  · rw [hnn] at c5
    obtain ⟨k, hk, rfl⟩ := mo_bl_t (mo_b_nz c5) (by omega)
    refine mw_steps X 1 (pc' := 12) (lv' := [(0, .ref mb), (1, .int (nI k))]) (st' := [.ref mb]) rfl ?_
    refine mw_get X kf_X5_7.fl kc_5 rfl (v := .ref (mb + 1)) (fun H h => ⟨_, h.1, rfl⟩) ?_
    refine mw_steps X 1 (pc' := 17) (lv' := [(0, .ref mb), (1, .int (nI k))]) (st' := [.int (nI 11), .ref (mb + 1)]) rfl ?_
    refine mw_iald X (v := nI n) (11) rfl rfl (fun H h => ⟨_, _, h.2.1, by omega, by decide, hn⟩) ?_
    refine mw_steps X 1 (pc' := 20) (lv' := [(0, .ref mb), (1, .int (nI k))]) (st' := [.int (nI 24), .int (nI n)]) rfl ?_
    refine mw_icmp_ne X 26 rfl rfl (fun c20 => ?_) (fun c20 => ?_)
    · refine mw_steps X 2 (pc' := 28) (lv' := [(2, .int (nI 0)), (0, .ref mb), (1, .int (nI k))]) (st' := []) rfl ?_
      refine mw_pre (I' := md_I Γ mb (mo_put W (327 + 6 * n) 0 (fun j => W (327 + 6 * k + j))) ρ) (fun H h => by rw [ml_put0]; exact h) ?_
      have hn24 : n < 24 := by have : ¬ n = 24 := fun q => c20 (by rw [q]); omega
      refine mw_wf (fun t => 6 - t) (fun t => t ≤ 6) (fun t => md_I Γ mb (mo_put W (327 + 6 * n) t (fun j => W (327 + 6 * k + j))) ρ) (fun t => [(2, .int (nI t)), (0, .ref mb), (1, .int (nI k))]) (fun t ht ih => ?_) 0 (Nat.zero_le _)
      have hq : mo_put W (327 + 6 * n) t (fun j => W (327 + 6 * k + j)) 11 = nI n := by rw [mo_put_out (by omega)]; exact hn
      refine mw_steps X 2 (pc' := 31) (lv' := [(2, .int (nI t)), (0, .ref mb), (1, .int (nI k))]) (st' := [.int (nI 6), .int (nI t)]) rfl ?_
      refine mw_icmp_ge X 76 rfl rfl (fun c31 => ?_) (fun c31 => ?_)
      · have htn : t = 6 := by rw [nI_leI (by omega) (by omega)] at c31; omega
        refine mw_steps X 1 (pc' := 77) (lv' := [(2, .int (nI t)), (0, .ref mb), (1, .int (nI k))]) (st' := [.ref mb]) rfl ?_
        refine mw_get X kf_X5_7.fl kc_5 rfl (v := .ref (mb + 1)) (fun H h => ⟨_, h.1, rfl⟩) ?_
        refine mw_steps X 2 (pc' := 83) (lv' := [(2, .int (nI t)), (0, .ref mb), (1, .int (nI k))]) (st' := [.int (nI 11), .ref (mb + 1), .int (nI 11), .ref (mb + 1)]) rfl ?_
        refine mw_iald X (v := nI n) (11) rfl rfl (fun H h => ⟨_, _, h.2.1, by omega, by decide, hq⟩) ?_
        refine mw_steps X 2 (pc' := 86) (lv' := [(2, .int (nI t)), (0, .ref mb), (1, .int (nI k))]) (st' := [.int ((nI n) + (nI 1)), .int (nI 11), .ref (mb + 1)]) rfl ?_
        refine mw_iast X (I1 := md_I Γ mb (upd (mo_put W (327 + 6 * n) t (fun j => W (327 + 6 * k + j))) (11) ((nI n) + (nI 1))) ρ) (11) rfl rfl (fun H h => ⟨md_A1, _, _, h.2.1, by omega, by decide, fun H1 o c => h.stw o c⟩) ?_
        refine mw_steps X 1 (pc' := 88) (lv' := [(2, .int (nI t)), (0, .ref mb), (1, .int (nI k))]) (st' := [.ref mb]) rfl ?_
        refine mw_get X kf_X5_7.fl kc_5 rfl (v := .ref (mb + 1)) (fun H h => ⟨_, h.1, rfl⟩) ?_
        refine mw_steps X 1 (pc' := 93) (lv' := [(2, .int (nI t)), (0, .ref mb), (1, .int (nI k))]) (st' := [.int (nI 11), .ref (mb + 1)]) rfl ?_
        refine mw_iald X (v := (nI n) + (nI 1)) (11) rfl rfl (fun H h => ⟨_, _, h.2.1, by omega, by decide, (by simp (disch := omega) only [pk_us, pk_un])⟩) ?_
        have hop : op_twice W (nI k) = ((nI n) + (nI 1), upd (mo_put W (327 + 6 * n) t (fun j => W (327 + 6 * k + j))) (11) ((nI n) + (nI 1))) := by subst htn; unfold op_twice mo_twice; rw [hnn, if_pos (mo_bl_n hk (by omega)), ml_n (by omega), hn, if_neg c20]
        exact mw_iret X rfl rfl (fun H h => ⟨by rw [hop], by rw [hop]; exact h⟩)
      · have htn : t < 6 := by rw [nI_leI (by omega) (by omega)] at c31; omega
        have hkt : mo_put W (327 + 6 * n) t (fun j => W (327 + 6 * k + j)) (327 + 6 * k + t) = W (327 + 6 * k + t) := by rw [mo_put_out (by omega)]
        refine mw_steps X 1 (pc' := 35) (lv' := [(2, .int (nI t)), (0, .ref mb), (1, .int (nI k))]) (st' := [.ref mb]) rfl ?_
        refine mw_get X kf_X5_7.fl kc_5 rfl (v := .ref (mb + 1)) (fun H h => ⟨_, h.1, rfl⟩) ?_
        refine mw_steps X 3 (pc' := 44) (lv' := [(2, .int (nI t)), (0, .ref mb), (1, .int (nI k))]) (st' := [.ref mb, .int (nI 6), .int (nI 327), .ref (mb + 1)]) rfl ?_
        refine mw_get X kf_X5_7.fl kc_5 rfl (v := .ref (mb + 1)) (fun H h => ⟨_, h.1, rfl⟩) ?_
        refine mw_steps X 1 (pc' := 49) (lv' := [(2, .int (nI t)), (0, .ref mb), (1, .int (nI k))]) (st' := [.int (nI 11), .ref (mb + 1), .int (nI 6), .int (nI 327), .ref (mb + 1)]) rfl ?_
        refine mw_iald X (v := nI n) (11) rfl rfl (fun H h => ⟨_, _, h.2.1, by omega, by decide, hq⟩) ?_
        refine mw_steps X 5 (pc' := 55) (lv' := [(2, .int (nI t)), (0, .ref mb), (1, .int (nI k))]) (st' := [.ref mb, .int (((nI 327) + ((nI 6) * (nI n))) + (nI t)), .ref (mb + 1)]) rfl ?_
        refine mw_get X kf_X5_7.fl kc_5 rfl (v := .ref (mb + 1)) (fun H h => ⟨_, h.1, rfl⟩) ?_
        refine mw_steps X 7 (pc' := 68) (lv' := [(2, .int (nI t)), (0, .ref mb), (1, .int (nI k))]) (st' := [.int (((nI 327) + ((nI 6) * (nI k))) + (nI t)), .ref (mb + 1), .int (((nI 327) + ((nI 6) * (nI n))) + (nI t)), .ref (mb + 1)]) rfl ?_
        refine mw_iald X (v := W (327 + 6 * k + t)) (327 + 6 * k + t) (by simp only [nI_add, pk_mul]) rfl (fun H h => ⟨_, _, h.2.1, by omega, by decide, hkt⟩) ?_
        refine mw_iast X (I1 := md_I Γ mb (upd (mo_put W (327 + 6 * n) t (fun j => W (327 + 6 * k + j))) (327 + 6 * n + t) (W (327 + 6 * k + t))) ρ) (327 + 6 * n + t) (by simp only [nI_add, pk_mul]) rfl (fun H h => ⟨md_A1, _, _, h.2.1, by omega, by decide, fun H1 o c => h.stw o c⟩) ?_
        refine mw_steps X 2 (pc' := 28) (lv' := [(2, .int ((nI t) + (nI 1))), (0, .ref mb), (1, .int (nI k))]) (st' := []) rfl ?_
        refine mw_lveq (lv' := [(2, .int (nI (t + 1))), (0, .ref mb), (1, .int (nI k))]) (by simp only [nI_add]) ?_
        refine mw_pre (fun H h => ?_) (ih (t + 1) (by omega) (by omega))
        rw [← ml_putS W (fun j => W (327 + 6 * k + j))]; exact h
    · refine mw_ldc X kk_X5_161 rfl ?_
      have hop : op_twice W (nI k) = ((-1000000004), W) := by unfold op_twice; rw [hnn, if_pos (mo_bl_n hk (by omega)), hn, if_pos c20]
      exact mw_iret X rfl rfl (fun H h => ⟨by rw [hop], by rw [hop]; exact h⟩)
  · refine mw_ldc X kk_X5_147 rfl ?_
    have hop : op_twice W x = ((-1000000001), W) := by unfold op_twice; rw [if_neg (by rw [mo_b_z c5]; decide)]
    exact mw_iret X rfl rfl (fun H h => ⟨by rw [hop], by rw [hop]; exact h⟩)
