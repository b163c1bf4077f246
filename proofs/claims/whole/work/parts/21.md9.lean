set_option maxHeartbeats 4000000 in
set_option maxRecDepth 20000 in
theorem cm_manyOf {l : Launch} {Γ : mw_C} {mb : Nat} (hmb : Γ.2.2.2 ≤ mb) {W : Nat → Int32} {ρ : md_R} {H : Heap} {f : Nat} {v : Int32} (hH : md_I Γ mb W ρ H) (hf : f ≤ 100) : mw_Cr l Γ mX5_manyOf 1 0 0 (md_A mb) [.ref mb, .int (nI f), .int v] H (some (.int (nI (mo_cnt (fun k => decide (W (f + k) = v)) 40)))) (md_I Γ mb W ρ) := by
  refine mw_ofG (P := pX5_manyOf) (by decide) (md_As hmb) oX5_manyOf (Nat.le_of_ble_eq_true rfl) ?_
  intro pg e0 sg mg below meth cd X hs
  refine mw_pre (I' := md_I Γ mb W ρ) (fun H1 h1 => by rw [h1]; exact hH) ?_
  refine mw_steps X 4 (pc' := 5) (lv' := [(4, .int (nI 0)), (3, .int (nI 0)), (0, .ref mb), (1, .int (nI f)), (2, .int v)]) (st' := []) rfl ?_
  refine mw_wf (fun t => 40 - t) (fun t => t ≤ 40) (fun _ => md_I Γ mb W ρ) (fun t => [(4, .int (nI t)), (3, .int (nI (mo_cnt (fun k => decide (W (f + k) = v)) t))), (0, .ref mb), (1, .int (nI f)), (2, .int v)]) (fun t ht ih => ?_) 0 (Nat.zero_le _)
  refine mw_steps X 2 (pc' := 9) (lv' := [(4, .int (nI t)), (3, .int (nI (mo_cnt (fun k => decide (W (f + k) = v)) t))), (0, .ref mb), (1, .int (nI f)), (2, .int v)]) (st' := [.int (nI 40), .int (nI t)]) rfl ?_
  refine mw_icmp_ge X 39 rfl rfl (fun c9 => ?_) (fun c9 => ?_)
  · have htn : t = 40 := by rw [nI_leI (by omega) (by omega)] at c9; omega
    refine mw_steps X 1 (pc' := 40) (lv' := [(4, .int (nI t)), (3, .int (nI (mo_cnt (fun k => decide (W (f + k) = v)) t))), (0, .ref mb), (1, .int (nI f)), (2, .int v)]) (st' := [.int (nI (mo_cnt (fun k => decide (W (f + k) = v)) t))]) rfl ?_
    exact mw_iret X rfl rfl (fun H h => ⟨by rw [htn], h⟩)
  · have htn : t < 40 := by rw [nI_leI (by omega) (by omega)] at c9; omega
    refine mw_steps X 2 (pc' := 14) (lv' := [(4, .int (nI t)), (3, .int (nI (mo_cnt (fun k => decide (W (f + k) = v)) t))), (0, .ref mb), (1, .int (nI f)), (2, .int v)]) (st' := [.ref mb, .int (nI (mo_cnt (fun k => decide (W (f + k) = v)) t))]) rfl ?_
    refine mw_get X kf_X5_7.fl kc_5 rfl (v := .ref (mb + 1)) (fun H h => ⟨_, h.1, rfl⟩) ?_
    refine mw_steps X 3 (pc' := 21) (lv' := [(4, .int (nI t)), (3, .int (nI (mo_cnt (fun k => decide (W (f + k) = v)) t))), (0, .ref mb), (1, .int (nI f)), (2, .int v)]) (st' := [.int ((nI f) + (nI t)), .ref (mb + 1), .int (nI (mo_cnt (fun k => decide (W (f + k) = v)) t))]) rfl ?_
    refine mw_iald X (v := W (f + t)) (f + t) (by simp only [nI_add, pk_mul]) rfl (fun H h => ⟨_, _, h.2.1, by omega, by decide, rfl⟩) ?_
    refine mw_steps X 1 (pc' := 23) (lv' := [(4, .int (nI t)), (3, .int (nI (mo_cnt (fun k => decide (W (f + k) = v)) t))), (0, .ref mb), (1, .int (nI f)), (2, .int v)]) (st' := [.int v, .int (W (f + t)), .int (nI (mo_cnt (fun k => decide (W (f + k) = v)) t))]) rfl ?_
    refine mw_icmp_ne X 30 rfl rfl (fun c23 => ?_) (fun c23 => ?_)
    · refine mw_steps X 5 (pc' := 5) (lv' := [(4, .int ((nI t) + (nI 1))), (3, .int ((nI (mo_cnt (fun k => decide (W (f + k) = v)) t)) + (nI 0))), (0, .ref mb), (1, .int (nI f)), (2, .int v)]) (st' := []) rfl ?_
      refine mw_lveq (lv' := [(4, .int (nI (t + 1))), (3, .int (nI (mo_cnt (fun k => decide (W (f + k) = v)) (t + 1)))), (0, .ref mb), (1, .int (nI f)), (2, .int v)]) (by first | rw [nI_add, nI_add, ml_cnt_y (show ((fun k => decide (W (f + k) = v))) t = true from decide_eq_true c23)] | rw [nI_add, nI_add, ml_cnt_n (show ((fun k => decide (W (f + k) = v))) t = false from decide_eq_false c23)]) ?_
      exact ih (t + 1) (by omega) (by omega)
    · refine mw_steps X 6 (pc' := 5) (lv' := [(4, .int ((nI t) + (nI 1))), (3, .int ((nI (mo_cnt (fun k => decide (W (f + k) = v)) t)) + (nI 1))), (0, .ref mb), (1, .int (nI f)), (2, .int v)]) (st' := []) rfl ?_
      refine mw_lveq (lv' := [(4, .int (nI (t + 1))), (3, .int (nI (mo_cnt (fun k => decide (W (f + k) = v)) (t + 1)))), (0, .ref mb), (1, .int (nI f)), (2, .int v)]) (by first | rw [nI_add, nI_add, ml_cnt_y (show ((fun k => decide (W (f + k) = v))) t = true from decide_eq_true c23)] | rw [nI_add, nI_add, ml_cnt_n (show ((fun k => decide (W (f + k) = v))) t = false from decide_eq_false c23)]) ?_
      exact ih (t + 1) (by omega) (by omega)
set_option maxHeartbeats 4000000 in
set_option maxRecDepth 20000 in
theorem cm_manyHas {l : Launch} {Γ : mw_C} {mb : Nat} (hmb : Γ.2.2.2 ≤ mb) {W : Nat → Int32} {ρ : md_R} {H : Heap} {e c : Nat} (hH : md_I Γ mb W ρ H) (hv : iv c W) (he : e < 2) : mw_Cr l Γ mX5_manyHas 1 0 0 (md_A mb) [.ref mb, .int (nI e)] H (some (.int (nI (mo_cnt (fun k => decide (W (127 + 100 * e + k) = nI 1)) 100)))) (md_I Γ mb W ρ) := by
  refine mw_ofG (P := pX5_manyHas) (by decide) (md_As hmb) oX5_manyHas (Nat.le_of_ble_eq_true rfl) ?_
  intro pg e0 sg mg below meth cd X hs
  refine mw_pre (I' := md_I Γ mb W ρ) (fun H1 h1 => by rw [h1]; exact hH) ?_
  refine mw_steps X 4 (pc' := 4) (lv' := [(3, .int (nI 0)), (2, .int (nI 0)), (0, .ref mb), (1, .int (nI e))]) (st' := []) rfl ?_
  refine mw_wf (fun t => 100 - t) (fun t => t ≤ 100) (fun _ => md_I Γ mb W ρ) (fun t => [(3, .int (nI t)), (2, .int (nI (mo_cnt (fun k => decide (W (127 + 100 * e + k) = nI 1)) t))), (0, .ref mb), (1, .int (nI e))]) (fun t ht ih => ?_) 0 (Nat.zero_le _)
  refine mw_steps X 2 (pc' := 7) (lv' := [(3, .int (nI t)), (2, .int (nI (mo_cnt (fun k => decide (W (127 + 100 * e + k) = nI 1)) t))), (0, .ref mb), (1, .int (nI e))]) (st' := [.int (nI 100), .int (nI t)]) rfl ?_
  refine mw_icmp_ge X 33 rfl rfl (fun c7 => ?_) (fun c7 => ?_)
  · have htn : t = 100 := by rw [nI_leI (by omega) (by omega)] at c7; omega
    refine mw_steps X 1 (pc' := 34) (lv' := [(3, .int (nI t)), (2, .int (nI (mo_cnt (fun k => decide (W (127 + 100 * e + k) = nI 1)) t))), (0, .ref mb), (1, .int (nI e))]) (st' := [.int (nI (mo_cnt (fun k => decide (W (127 + 100 * e + k) = nI 1)) t))]) rfl ?_
    exact mw_iret X rfl rfl (fun H h => ⟨by rw [htn], h⟩)
  · have htn : t < 100 := by rw [nI_leI (by omega) (by omega)] at c7; omega
    have hb := ml_bit01 hv he htn
    refine mw_steps X 2 (pc' := 12) (lv' := [(3, .int (nI t)), (2, .int (nI (mo_cnt (fun k => decide (W (127 + 100 * e + k) = nI 1)) t))), (0, .ref mb), (1, .int (nI e))]) (st' := [.ref mb, .int (nI (mo_cnt (fun k => decide (W (127 + 100 * e + k) = nI 1)) t))]) rfl ?_
    refine mw_get X kf_X5_7.fl kc_5 rfl (v := .ref (mb + 1)) (fun H h => ⟨_, h.1, rfl⟩) ?_
    refine mw_steps X 7 (pc' := 24) (lv' := [(3, .int (nI t)), (2, .int (nI (mo_cnt (fun k => decide (W (127 + 100 * e + k) = nI 1)) t))), (0, .ref mb), (1, .int (nI e))]) (st' := [.int (((nI 127) + ((nI 100) * (nI e))) + (nI t)), .ref (mb + 1), .int (nI (mo_cnt (fun k => decide (W (127 + 100 * e + k) = nI 1)) t))]) rfl ?_
    refine mw_iald X (v := nI (if decide (W (127 + 100 * e + t) = nI 1) = true then 1 else 0)) (127 + 100 * e + t) (by simp only [nI_add, pk_mul]) rfl (fun H h => ⟨_, _, h.2.1, by omega, by decide, hb⟩) ?_
    refine mw_steps X 4 (pc' := 4) (lv' := [(3, .int ((nI t) + (nI 1))), (2, .int ((nI (mo_cnt (fun k => decide (W (127 + 100 * e + k) = nI 1)) t)) + (nI (if decide (W (127 + 100 * e + t) = nI 1) = true then 1 else 0)))), (0, .ref mb), (1, .int (nI e))]) (st' := []) rfl ?_
    refine mw_lveq (lv' := [(3, .int (nI (t + 1))), (2, .int (nI (mo_cnt (fun k => decide (W (127 + 100 * e + k) = nI 1)) (t + 1)))), (0, .ref mb), (1, .int (nI e))]) (by rw [ml_cntS (fun k => decide (W (127 + 100 * e + k) = nI 1)) t, nI_add]) ?_
    exact ih (t + 1) (by omega) (by omega)
set_option maxHeartbeats 4000000 in
set_option maxRecDepth 20000 in
theorem cm_heldFor {l : Launch} {Γ : mw_C} {mb : Nat} (hmb : Γ.2.2.2 ≤ mb) {W : Nat → Int32} {ρ : md_R} {H : Heap} {p n : Nat} (hH : md_I Γ mb W ρ H) (hn : W 12 = nI n) (hn2 : n ≤ 12) : mw_Cr l Γ mX5_heldFor 1 0 0 (md_A mb) [.ref mb, .int (nI p)] H (some (.int (nI (mo_cnt (fun k => decide (W (471 + 3 * k) = nI p)) n)))) (md_I Γ mb W ρ) := by
  refine mw_ofG (P := pX5_heldFor) (by decide) (md_As hmb) oX5_heldFor (Nat.le_of_ble_eq_true rfl) ?_
  intro pg e0 sg mg below meth cd X hs
  refine mw_pre (I' := md_I Γ mb W ρ) (fun H1 h1 => by rw [h1]; exact hH) ?_
  refine mw_steps X 4 (pc' := 4) (lv' := [(3, .int (nI 0)), (2, .int (nI 0)), (0, .ref mb), (1, .int (nI p))]) (st' := []) rfl ?_
  refine mw_wf (fun t => n - t) (fun t => t ≤ n) (fun _ => md_I Γ mb W ρ) (fun t => [(3, .int (nI t)), (2, .int (nI (mo_cnt (fun k => decide (W (471 + 3 * k) = nI p)) t))), (0, .ref mb), (1, .int (nI p))]) (fun t ht ih => ?_) 0 (Nat.zero_le _)
  refine mw_steps X 2 (pc' := 6) (lv' := [(3, .int (nI t)), (2, .int (nI (mo_cnt (fun k => decide (W (471 + 3 * k) = nI p)) t))), (0, .ref mb), (1, .int (nI p))]) (st' := [.ref mb, .int (nI t)]) rfl ?_
  refine mw_get X kf_X5_7.fl kc_5 rfl (v := .ref (mb + 1)) (fun H h => ⟨_, h.1, rfl⟩) ?_
  refine mw_steps X 1 (pc' := 11) (lv' := [(3, .int (nI t)), (2, .int (nI (mo_cnt (fun k => decide (W (471 + 3 * k) = nI p)) t))), (0, .ref mb), (1, .int (nI p))]) (st' := [.int (nI 12), .ref (mb + 1), .int (nI t)]) rfl ?_
  refine mw_iald X (v := nI n) (12) rfl rfl (fun H h => ⟨_, _, h.2.1, by omega, by decide, hn⟩) ?_
  refine mw_icmp_ge X 45 rfl rfl (fun c12 => ?_) (fun c12 => ?_)
  · have htn : t = n := by rw [nI_leI (by omega) (by omega)] at c12; omega
    refine mw_steps X 1 (pc' := 46) (lv' := [(3, .int (nI t)), (2, .int (nI (mo_cnt (fun k => decide (W (471 + 3 * k) = nI p)) t))), (0, .ref mb), (1, .int (nI p))]) (st' := [.int (nI (mo_cnt (fun k => decide (W (471 + 3 * k) = nI p)) t))]) rfl ?_
    exact mw_iret X rfl rfl (fun H h => ⟨by rw [htn], h⟩)
  · have htn : t < n := by rw [nI_leI (by omega) (by omega)] at c12; omega
    refine mw_steps X 2 (pc' := 17) (lv' := [(3, .int (nI t)), (2, .int (nI (mo_cnt (fun k => decide (W (471 + 3 * k) = nI p)) t))), (0, .ref mb), (1, .int (nI p))]) (st' := [.ref mb, .int (nI (mo_cnt (fun k => decide (W (471 + 3 * k) = nI p)) t))]) rfl ?_
    refine mw_get X kf_X5_7.fl kc_5 rfl (v := .ref (mb + 1)) (fun H h => ⟨_, h.1, rfl⟩) ?_
    refine mw_steps X 5 (pc' := 27) (lv' := [(3, .int (nI t)), (2, .int (nI (mo_cnt (fun k => decide (W (471 + 3 * k) = nI p)) t))), (0, .ref mb), (1, .int (nI p))]) (st' := [.int ((nI 471) + ((nI 3) * (nI t))), .ref (mb + 1), .int (nI (mo_cnt (fun k => decide (W (471 + 3 * k) = nI p)) t))]) rfl ?_
    refine mw_iald X (v := W (471 + 3 * t)) (471 + 3 * t) (by simp only [nI_add, pk_mul]) rfl (fun H h => ⟨_, _, h.2.1, by omega, by decide, rfl⟩) ?_
    refine mw_steps X 1 (pc' := 29) (lv' := [(3, .int (nI t)), (2, .int (nI (mo_cnt (fun k => decide (W (471 + 3 * k) = nI p)) t))), (0, .ref mb), (1, .int (nI p))]) (st' := [.int (nI p), .int (W (471 + 3 * t)), .int (nI (mo_cnt (fun k => decide (W (471 + 3 * k) = nI p)) t))]) rfl ?_
    refine mw_icmp_ne X 36 rfl rfl (fun c29 => ?_) (fun c29 => ?_)
    · refine mw_steps X 5 (pc' := 4) (lv' := [(3, .int ((nI t) + (nI 1))), (2, .int ((nI (mo_cnt (fun k => decide (W (471 + 3 * k) = nI p)) t)) + (nI 0))), (0, .ref mb), (1, .int (nI p))]) (st' := []) rfl ?_
      refine mw_lveq (lv' := [(3, .int (nI (t + 1))), (2, .int (nI (mo_cnt (fun k => decide (W (471 + 3 * k) = nI p)) (t + 1)))), (0, .ref mb), (1, .int (nI p))]) (by first | rw [nI_add, nI_add, ml_cnt_y (show ((fun k => decide (W (471 + 3 * k) = nI p))) t = true from decide_eq_true c29)] | rw [nI_add, nI_add, ml_cnt_n (show ((fun k => decide (W (471 + 3 * k) = nI p))) t = false from decide_eq_false c29)]) ?_
      exact ih (t + 1) (by omega) (by omega)
    · refine mw_steps X 6 (pc' := 4) (lv' := [(3, .int ((nI t) + (nI 1))), (2, .int ((nI (mo_cnt (fun k => decide (W (471 + 3 * k) = nI p)) t)) + (nI 1))), (0, .ref mb), (1, .int (nI p))]) (st' := []) rfl ?_
      refine mw_lveq (lv' := [(3, .int (nI (t + 1))), (2, .int (nI (mo_cnt (fun k => decide (W (471 + 3 * k) = nI p)) (t + 1)))), (0, .ref mb), (1, .int (nI p))]) (by first | rw [nI_add, nI_add, ml_cnt_y (show ((fun k => decide (W (471 + 3 * k) = nI p))) t = true from decide_eq_true c29)] | rw [nI_add, nI_add, ml_cnt_n (show ((fun k => decide (W (471 + 3 * k) = nI p))) t = false from decide_eq_false c29)]) ?_
      exact ih (t + 1) (by omega) (by omega)
set_option maxHeartbeats 4000000 in
set_option maxRecDepth 20000 in
theorem cm_hasAll0 {l : Launch} {Γ : mw_C} {mb : Nat} (hmb : Γ.2.2.2 ≤ mb) {W : Nat → Int32} {ρ : md_R} {H : Heap} {c : Nat} (hH : md_I Γ mb W ρ H) (hv : iv c W) : mw_Cr l Γ mX5_hasAll 1 0 0 (md_A mb) [.ref mb, .int (nI 0)] H (some (.int (mo_b (mo_ha W 0)))) (md_I Γ mb W ρ) := by
  obtain ⟨⟨n, hn2, hn⟩, -⟩ := hv.2.2.2.2.2.2.2.1 1 (by omega)
  refine mw_ofG (P := pX5_hasAll) (by decide) (md_As hmb) oX5_hasAll (Nat.le_of_ble_eq_true rfl) ?_
  intro pg e0 sg mg below meth cd X hs
  refine mw_pre (I' := md_I Γ mb W ρ) (fun H1 h1 => by rw [h1]; exact hH) ?_
  refine mw_steps X 4 (pc' := 4) (lv' := [(3, .int (nI 0)), (2, .int (nI 1)), (0, .ref mb), (1, .int (nI 0))]) (st' := []) rfl ?_
  refine mw_wf (σ := Nat × Nat) (fun q => n - q.1) (fun q => q.1 ≤ n ∧ q.2 < 2 ∧ (q.2 = 1 ↔ ∀ j, j < q.1 → W (127 + 100 * 0 + j) = nI 1)) (fun _ => md_I Γ mb W ρ) (fun q => [(3, .int (nI q.1)), (2, .int (nI q.2)), (0, .ref mb), (1, .int (nI 0))]) (fun q hq ih => ?_) (0, 1) ⟨Nat.zero_le _, by decide, fun _ j hj => absurd hj (Nat.not_lt_zero j), fun _ => rfl⟩
  obtain ⟨t, b⟩ := q
  obtain ⟨ht, hb2, hb⟩ := hq
  dsimp only at ht hb2 hb ⊢
  refine mw_steps X 2 (pc' := 6) (lv' := [(3, .int (nI t)), (2, .int (nI b)), (0, .ref mb), (1, .int (nI 0))]) (st' := [.ref mb, .int (nI t)]) rfl ?_
  refine mw_get X kf_X5_7.fl kc_5 rfl (v := .ref (mb + 1)) (fun H h => ⟨_, h.1, rfl⟩) ?_
  refine mw_steps X 3 (pc' := 13) (lv' := [(3, .int (nI t)), (2, .int (nI b)), (0, .ref mb), (1, .int (nI 0))]) (st' := [.int ((nI 19) - (nI 0)), .ref (mb + 1), .int (nI t)]) rfl ?_
  refine mw_iald X (v := nI n) (19) (by decide) rfl (fun H h => ⟨_, _, h.2.1, by omega, by decide, hn⟩) ?_
  refine mw_icmp_ge X 51 rfl rfl (fun c14 => ?_) (fun c14 => ?_)
  · have htn : t = n := by rw [nI_leI (by omega) (by omega)] at c14; omega
    refine mw_steps X 1 (pc' := 52) (lv' := [(3, .int (nI t)), (2, .int (nI b)), (0, .ref mb), (1, .int (nI 0))]) (st' := [.int (nI b)]) rfl ?_
    have hres : nI b = mo_b (mo_ha W 0) := by
      have hi := ml_ha_iff (e := 0) (n := n) hn hn2
      subst htn
      rcases (show b = 0 ∨ b = 1 by omega) with rfl | rfl
      · rw [show mo_ha W 0 = false from Bool.eq_false_iff.mpr (fun q => absurd (hb.mpr (hi.mp q)) (by decide))]; rfl
      · rw [show mo_ha W 0 = true from hi.mpr (hb.mp rfl)]; rfl
    exact mw_zret X rfl (by rw [hres]; exact mo_b_or _) rfl (fun H h => ⟨by rw [hres], h⟩)
  · have htn : t < n := by rw [nI_leI (by omega) (by omega)] at c14; omega
    refine mw_steps X 1 (pc' := 18) (lv' := [(3, .int (nI t)), (2, .int (nI b)), (0, .ref mb), (1, .int (nI 0))]) (st' := [.int (nI b)]) rfl ?_
    refine mw_if_eq X 43 rfl rfl (fun c18 => ?_) (fun c18 => ?_)
    · refine mw_steps X 4 (pc' := 4) (lv' := [(3, .int ((nI t) + (nI 1))), (2, .int (nI 0)), (0, .ref mb), (1, .int (nI 0))]) (st' := []) rfl ?_
      refine mw_lveq (lv' := [(3, .int (nI (t + 1))), (2, .int (nI 0)), (0, .ref mb), (1, .int (nI 0))]) (by simp only [nI_add]) ?_
      exact ih (t + 1, 0) ⟨by dsimp only; omega, by dsimp only; omega, fun q => absurd q (by dsimp only; omega), fun q => by first | exact absurd (q t (by dsimp only; omega)) c36 | (have h0 : b = 0 := by rw [← nI_0, nI_eq (by omega) (by omega)] at c18; exact c18); have := hb.mpr (fun j hj => q j (by dsimp only; omega)); omega⟩ (by dsimp only; omega)
    · refine mw_steps X 1 (pc' := 22) (lv' := [(3, .int (nI t)), (2, .int (nI b)), (0, .ref mb), (1, .int (nI 0))]) (st' := [.ref mb]) rfl ?_
      refine mw_get X kf_X5_7.fl kc_5 rfl (v := .ref (mb + 1)) (fun H h => ⟨_, h.1, rfl⟩) ?_
      refine mw_steps X 7 (pc' := 34) (lv' := [(3, .int (nI t)), (2, .int (nI b)), (0, .ref mb), (1, .int (nI 0))]) (st' := [.int (((nI 127) + ((nI 100) * (nI 0))) + (nI t)), .ref (mb + 1)]) rfl ?_
      refine mw_iald X (v := W (127 + 100 * 0 + t)) (127 + 100 * 0 + t) (by simp only [nI_add, pk_mul]) rfl (fun H h => ⟨_, _, h.2.1, by omega, by decide, rfl⟩) ?_
      refine mw_steps X 1 (pc' := 36) (lv' := [(3, .int (nI t)), (2, .int (nI b)), (0, .ref mb), (1, .int (nI 0))]) (st' := [.int (nI 1), .int (W (127 + 100 * 0 + t))]) rfl ?_
      refine mw_icmp_ne X 43 rfl rfl (fun c36 => ?_) (fun c36 => ?_)
      · refine mw_steps X 4 (pc' := 4) (lv' := [(3, .int ((nI t) + (nI 1))), (2, .int (nI 0)), (0, .ref mb), (1, .int (nI 0))]) (st' := []) rfl ?_
        refine mw_lveq (lv' := [(3, .int (nI (t + 1))), (2, .int (nI 0)), (0, .ref mb), (1, .int (nI 0))]) (by simp only [nI_add]) ?_
        exact ih (t + 1, 0) ⟨by dsimp only; omega, by dsimp only; omega, fun q => absurd q (by dsimp only; omega), fun q => by first | exact absurd (q t (by dsimp only; omega)) c36 | (have h0 : b = 0 := by rw [← nI_0, nI_eq (by omega) (by omega)] at c18; exact c18); have := hb.mpr (fun j hj => q j (by dsimp only; omega)); omega⟩ (by dsimp only; omega)
      · refine mw_steps X 5 (pc' := 4) (lv' := [(3, .int ((nI t) + (nI 1))), (2, .int (nI 1)), (0, .ref mb), (1, .int (nI 0))]) (st' := []) rfl ?_
        refine mw_lveq (lv' := [(3, .int (nI (t + 1))), (2, .int (nI 1)), (0, .ref mb), (1, .int (nI 0))]) (by simp only [nI_add]) ?_
        exact ih (t + 1, 1) ⟨by dsimp only; omega, by dsimp only; omega, fun _ => ml_succ (hb.mp (by have : ¬ b = 0 := fun q => c18 (by rw [q]; rfl); omega)) c36, fun _ => rfl⟩ (by dsimp only; omega)
set_option maxHeartbeats 4000000 in
set_option maxRecDepth 20000 in
theorem cm_hasAll1 {l : Launch} {Γ : mw_C} {mb : Nat} (hmb : Γ.2.2.2 ≤ mb) {W : Nat → Int32} {ρ : md_R} {H : Heap} {c : Nat} (hH : md_I Γ mb W ρ H) (hv : iv c W) : mw_Cr l Γ mX5_hasAll 1 0 0 (md_A mb) [.ref mb, .int (nI 1)] H (some (.int (mo_b (mo_ha W 1)))) (md_I Γ mb W ρ) := by
  obtain ⟨⟨n, hn2, hn⟩, -⟩ := hv.2.2.2.2.2.2.2.1 0 (by omega)
  refine mw_ofG (P := pX5_hasAll) (by decide) (md_As hmb) oX5_hasAll (Nat.le_of_ble_eq_true rfl) ?_
  intro pg e0 sg mg below meth cd X hs
  refine mw_pre (I' := md_I Γ mb W ρ) (fun H1 h1 => by rw [h1]; exact hH) ?_
  refine mw_steps X 4 (pc' := 4) (lv' := [(3, .int (nI 0)), (2, .int (nI 1)), (0, .ref mb), (1, .int (nI 1))]) (st' := []) rfl ?_
  refine mw_wf (σ := Nat × Nat) (fun q => n - q.1) (fun q => q.1 ≤ n ∧ q.2 < 2 ∧ (q.2 = 1 ↔ ∀ j, j < q.1 → W (127 + 100 * 1 + j) = nI 1)) (fun _ => md_I Γ mb W ρ) (fun q => [(3, .int (nI q.1)), (2, .int (nI q.2)), (0, .ref mb), (1, .int (nI 1))]) (fun q hq ih => ?_) (0, 1) ⟨Nat.zero_le _, by decide, fun _ j hj => absurd hj (Nat.not_lt_zero j), fun _ => rfl⟩
  obtain ⟨t, b⟩ := q
  obtain ⟨ht, hb2, hb⟩ := hq
  dsimp only at ht hb2 hb ⊢
  refine mw_steps X 2 (pc' := 6) (lv' := [(3, .int (nI t)), (2, .int (nI b)), (0, .ref mb), (1, .int (nI 1))]) (st' := [.ref mb, .int (nI t)]) rfl ?_
  refine mw_get X kf_X5_7.fl kc_5 rfl (v := .ref (mb + 1)) (fun H h => ⟨_, h.1, rfl⟩) ?_
  refine mw_steps X 3 (pc' := 13) (lv' := [(3, .int (nI t)), (2, .int (nI b)), (0, .ref mb), (1, .int (nI 1))]) (st' := [.int ((nI 19) - (nI 1)), .ref (mb + 1), .int (nI t)]) rfl ?_
  refine mw_iald X (v := nI n) (18) (by decide) rfl (fun H h => ⟨_, _, h.2.1, by omega, by decide, hn⟩) ?_
  refine mw_icmp_ge X 51 rfl rfl (fun c14 => ?_) (fun c14 => ?_)
  · have htn : t = n := by rw [nI_leI (by omega) (by omega)] at c14; omega
    refine mw_steps X 1 (pc' := 52) (lv' := [(3, .int (nI t)), (2, .int (nI b)), (0, .ref mb), (1, .int (nI 1))]) (st' := [.int (nI b)]) rfl ?_
    have hres : nI b = mo_b (mo_ha W 1) := by
      have hi := ml_ha_iff (e := 1) (n := n) hn hn2
      subst htn
      rcases (show b = 0 ∨ b = 1 by omega) with rfl | rfl
      · rw [show mo_ha W 1 = false from Bool.eq_false_iff.mpr (fun q => absurd (hb.mpr (hi.mp q)) (by decide))]; rfl
      · rw [show mo_ha W 1 = true from hi.mpr (hb.mp rfl)]; rfl
    exact mw_zret X rfl (by rw [hres]; exact mo_b_or _) rfl (fun H h => ⟨by rw [hres], h⟩)
  · have htn : t < n := by rw [nI_leI (by omega) (by omega)] at c14; omega
    refine mw_steps X 1 (pc' := 18) (lv' := [(3, .int (nI t)), (2, .int (nI b)), (0, .ref mb), (1, .int (nI 1))]) (st' := [.int (nI b)]) rfl ?_
    refine mw_if_eq X 43 rfl rfl (fun c18 => ?_) (fun c18 => ?_)
    · refine mw_steps X 4 (pc' := 4) (lv' := [(3, .int ((nI t) + (nI 1))), (2, .int (nI 0)), (0, .ref mb), (1, .int (nI 1))]) (st' := []) rfl ?_
      refine mw_lveq (lv' := [(3, .int (nI (t + 1))), (2, .int (nI 0)), (0, .ref mb), (1, .int (nI 1))]) (by simp only [nI_add]) ?_
      exact ih (t + 1, 0) ⟨by dsimp only; omega, by dsimp only; omega, fun q => absurd q (by dsimp only; omega), fun q => by first | exact absurd (q t (by dsimp only; omega)) c36 | (have h0 : b = 0 := by rw [← nI_0, nI_eq (by omega) (by omega)] at c18; exact c18); have := hb.mpr (fun j hj => q j (by dsimp only; omega)); omega⟩ (by dsimp only; omega)
    · refine mw_steps X 1 (pc' := 22) (lv' := [(3, .int (nI t)), (2, .int (nI b)), (0, .ref mb), (1, .int (nI 1))]) (st' := [.ref mb]) rfl ?_
      refine mw_get X kf_X5_7.fl kc_5 rfl (v := .ref (mb + 1)) (fun H h => ⟨_, h.1, rfl⟩) ?_
      refine mw_steps X 7 (pc' := 34) (lv' := [(3, .int (nI t)), (2, .int (nI b)), (0, .ref mb), (1, .int (nI 1))]) (st' := [.int (((nI 127) + ((nI 100) * (nI 1))) + (nI t)), .ref (mb + 1)]) rfl ?_
      refine mw_iald X (v := W (127 + 100 * 1 + t)) (127 + 100 * 1 + t) (by simp only [nI_add, pk_mul]) rfl (fun H h => ⟨_, _, h.2.1, by omega, by decide, rfl⟩) ?_
      refine mw_steps X 1 (pc' := 36) (lv' := [(3, .int (nI t)), (2, .int (nI b)), (0, .ref mb), (1, .int (nI 1))]) (st' := [.int (nI 1), .int (W (127 + 100 * 1 + t))]) rfl ?_
      refine mw_icmp_ne X 43 rfl rfl (fun c36 => ?_) (fun c36 => ?_)
      · refine mw_steps X 4 (pc' := 4) (lv' := [(3, .int ((nI t) + (nI 1))), (2, .int (nI 0)), (0, .ref mb), (1, .int (nI 1))]) (st' := []) rfl ?_
        refine mw_lveq (lv' := [(3, .int (nI (t + 1))), (2, .int (nI 0)), (0, .ref mb), (1, .int (nI 1))]) (by simp only [nI_add]) ?_
        exact ih (t + 1, 0) ⟨by dsimp only; omega, by dsimp only; omega, fun q => absurd q (by dsimp only; omega), fun q => by first | exact absurd (q t (by dsimp only; omega)) c36 | (have h0 : b = 0 := by rw [← nI_0, nI_eq (by omega) (by omega)] at c18; exact c18); have := hb.mpr (fun j hj => q j (by dsimp only; omega)); omega⟩ (by dsimp only; omega)
      · refine mw_steps X 5 (pc' := 4) (lv' := [(3, .int ((nI t) + (nI 1))), (2, .int (nI 1)), (0, .ref mb), (1, .int (nI 1))]) (st' := []) rfl ?_
        refine mw_lveq (lv' := [(3, .int (nI (t + 1))), (2, .int (nI 1)), (0, .ref mb), (1, .int (nI 1))]) (by simp only [nI_add]) ?_
        exact ih (t + 1, 1) ⟨by dsimp only; omega, by dsimp only; omega, fun _ => ml_succ (hb.mp (by have : ¬ b = 0 := fun q => c18 (by rw [q]; rfl); omega)) c36, fun _ => rfl⟩ (by dsimp only; omega)
set_option maxHeartbeats 4000000 in
set_option maxRecDepth 20000 in
theorem cm_settled {l : Launch} {Γ : mw_C} {mb : Nat} (hmb : Γ.2.2.2 ≤ mb) {W : Nat → Int32} {ρ : md_R} {H : Heap} {c : Nat} (hH : md_I Γ mb W ρ H) (hv : iv c W) : mw_Cr l Γ mX5_isSettled 2 0 0 (md_A mb) [.ref mb] H (some (.int (mo_b (mo_settled W)))) (md_I Γ mb W ρ) := by
  obtain ⟨cu, hcu5, hcu⟩ := ml_c2 hv
  refine mw_ofG (P := pX5_isSettled) (by decide) (md_As hmb) oX5_isSettled (Nat.le_of_ble_eq_true rfl) ?_
  intro pg e0 sg mg below meth cd X hs
  refine mw_pre (I' := md_I Γ mb W ρ) (fun H1 h1 => by rw [h1]; exact hH) ?_
  refine mw_steps X 1 (pc' := 1) (lv' := [(0, .ref mb)]) (st' := [.ref mb]) rfl ?_
  refine mw_get X kf_X5_7.fl kc_5 rfl (v := .ref (mb + 1)) (fun H h => ⟨_, h.1, rfl⟩) ?_
  refine mw_steps X 1 (pc' := 5) (lv' := [(0, .ref mb)]) (st' := [.int (nI 2), .ref (mb + 1)]) rfl ?_
  refine mw_iald X (v := nI cu) (2) rfl rfl (fun H h => ⟨_, _, h.2.1, by omega, by decide, hcu⟩) ?_
  refine mw_steps X 3 (pc' := 9) (lv' := [(1, .int (nI cu)), (0, .ref mb)]) (st' := [.ref mb, .int (nI cu)]) rfl ?_
  refine mw_get X kf_X5_7.fl kc_5 rfl (v := .ref (mb + 1)) (fun H h => ⟨_, h.1, rfl⟩) ?_
  refine mw_steps X 1 (pc' := 13) (lv' := [(1, .int (nI cu)), (0, .ref mb)]) (st' := [.int (nI 3), .ref (mb + 1), .int (nI cu)]) rfl ?_
  refine mw_iald X (v := W (3)) (3) rfl rfl (fun H h => ⟨_, _, h.2.1, by omega, by decide, rfl⟩) ?_
  refine mw_icmp_ne X 46 rfl rfl (fun c14 => ?_) (fun c14 => ?_)
  · refine mw_steps X 3 (pc' := 49) (lv' := [(2, .int (nI 0)), (1, .int (nI cu)), (0, .ref mb)]) (st' := [.int (nI 0)]) rfl ?_
    refine mw_if_eq X 92 rfl rfl (fun c49 => ?_) (fun c49 => absurd (by decide) c49)
    refine mw_steps X 1 (pc' := 93) (lv' := [(2, .int (nI 0)), (1, .int (nI cu)), (0, .ref mb)]) (st' := [.int (nI 0)]) rfl ?_
    exact mw_zret X rfl (by decide) rfl (fun H h => ⟨congrArg (fun z => some (Value.int z)) (by rw [ml_set_f hcu hcu5 (by first | exact Or.inl c14 | exact Or.inr (Or.inl c27) | exact Or.inr (Or.inr (Or.inl c39)) | exact Or.inr (Or.inr (Or.inr (Or.inl c59))) | exact Or.inr (Or.inr (Or.inr (Or.inr (Or.inl c69)))) | exact Or.inr (Or.inr (Or.inr (Or.inr (Or.inr (Or.inl (mo_b_z c77)))))) | exact Or.inr (Or.inr (Or.inr (Or.inr (Or.inr (Or.inr (mo_b_z c85)))))))]; rfl), h⟩)
  · refine mw_steps X 1 (pc' := 18) (lv' := [(1, .int (nI cu)), (0, .ref mb)]) (st' := [.ref mb]) rfl ?_
    refine mw_get X kf_X5_7.fl kc_5 rfl (v := .ref (mb + 1)) (fun H h => ⟨_, h.1, rfl⟩) ?_
    refine mw_steps X 3 (pc' := 25) (lv' := [(1, .int (nI cu)), (0, .ref mb)]) (st' := [.int ((nI 32) + (nI cu)), .ref (mb + 1)]) rfl ?_
    refine mw_iald X (v := W (32 + cu)) (32 + cu) (by simp only [nI_add, pk_mul]) rfl (fun H h => ⟨_, _, h.2.1, by omega, by decide, rfl⟩) ?_
    refine mw_steps X 1 (pc' := 27) (lv' := [(1, .int (nI cu)), (0, .ref mb)]) (st' := [.int (nI 1), .int (W (32 + cu))]) rfl ?_
    refine mw_icmp_ne X 46 rfl rfl (fun c27 => ?_) (fun c27 => ?_)
    · refine mw_steps X 3 (pc' := 49) (lv' := [(2, .int (nI 0)), (1, .int (nI cu)), (0, .ref mb)]) (st' := [.int (nI 0)]) rfl ?_
      refine mw_if_eq X 92 rfl rfl (fun c49 => ?_) (fun c49 => absurd (by decide) c49)
      refine mw_steps X 1 (pc' := 93) (lv' := [(2, .int (nI 0)), (1, .int (nI cu)), (0, .ref mb)]) (st' := [.int (nI 0)]) rfl ?_
      exact mw_zret X rfl (by decide) rfl (fun H h => ⟨congrArg (fun z => some (Value.int z)) (by rw [ml_set_f hcu hcu5 (by first | exact Or.inl c14 | exact Or.inr (Or.inl c27) | exact Or.inr (Or.inr (Or.inl c39)) | exact Or.inr (Or.inr (Or.inr (Or.inl c59))) | exact Or.inr (Or.inr (Or.inr (Or.inr (Or.inl c69)))) | exact Or.inr (Or.inr (Or.inr (Or.inr (Or.inr (Or.inl (mo_b_z c77)))))) | exact Or.inr (Or.inr (Or.inr (Or.inr (Or.inr (Or.inr (mo_b_z c85)))))))]; rfl), h⟩)
    · refine mw_steps X 1 (pc' := 31) (lv' := [(1, .int (nI cu)), (0, .ref mb)]) (st' := [.ref mb]) rfl ?_
      refine mw_get X kf_X5_7.fl kc_5 rfl (v := .ref (mb + 1)) (fun H h => ⟨_, h.1, rfl⟩) ?_
      refine mw_steps X 3 (pc' := 38) (lv' := [(1, .int (nI cu)), (0, .ref mb)]) (st' := [.int ((nI 22) + (nI cu)), .ref (mb + 1)]) rfl ?_
      refine mw_iald X (v := W (22 + cu)) (22 + cu) (by simp only [nI_add, pk_mul]) rfl (fun H h => ⟨_, _, h.2.1, by omega, by decide, rfl⟩) ?_
      refine mw_if_lt X 46 rfl rfl (fun c39 => ?_) (fun c39 => ?_)
      · refine mw_steps X 3 (pc' := 49) (lv' := [(2, .int (nI 0)), (1, .int (nI cu)), (0, .ref mb)]) (st' := [.int (nI 0)]) rfl ?_
        refine mw_if_eq X 92 rfl rfl (fun c49 => ?_) (fun c49 => absurd (by decide) c49)
        refine mw_steps X 1 (pc' := 93) (lv' := [(2, .int (nI 0)), (1, .int (nI cu)), (0, .ref mb)]) (st' := [.int (nI 0)]) rfl ?_
        exact mw_zret X rfl (by decide) rfl (fun H h => ⟨congrArg (fun z => some (Value.int z)) (by rw [ml_set_f hcu hcu5 (by first | exact Or.inl c14 | exact Or.inr (Or.inl c27) | exact Or.inr (Or.inr (Or.inl c39)) | exact Or.inr (Or.inr (Or.inr (Or.inl c59))) | exact Or.inr (Or.inr (Or.inr (Or.inr (Or.inl c69)))) | exact Or.inr (Or.inr (Or.inr (Or.inr (Or.inr (Or.inl (mo_b_z c77)))))) | exact Or.inr (Or.inr (Or.inr (Or.inr (Or.inr (Or.inr (mo_b_z c85)))))))]; rfl), h⟩)
      · refine mw_steps X 4 (pc' := 49) (lv' := [(2, .int (nI 1)), (1, .int (nI cu)), (0, .ref mb)]) (st' := [.int (nI 1)]) rfl ?_
        refine mw_if_eq X 92 rfl rfl (fun c49 => absurd c49 (by decide)) (fun c49 => ?_)
        refine mw_steps X 1 (pc' := 53) (lv' := [(2, .int (nI 1)), (1, .int (nI cu)), (0, .ref mb)]) (st' := [.ref mb]) rfl ?_
        refine mw_get X kf_X5_7.fl kc_5 rfl (v := .ref (mb + 1)) (fun H h => ⟨_, h.1, rfl⟩) ?_
        refine mw_steps X 1 (pc' := 58) (lv' := [(2, .int (nI 1)), (1, .int (nI cu)), (0, .ref mb)]) (st' := [.int (nI 11), .ref (mb + 1)]) rfl ?_
        refine mw_iald X (v := W (11)) (11) rfl rfl (fun H h => ⟨_, _, h.2.1, by omega, by decide, rfl⟩) ?_
        refine mw_if_ne X 92 rfl rfl (fun c59 => ?_) (fun c59 => ?_)
        · refine mw_steps X 1 (pc' := 93) (lv' := [(2, .int (nI 1)), (1, .int (nI cu)), (0, .ref mb)]) (st' := [.int (nI 0)]) rfl ?_
          exact mw_zret X rfl (by decide) rfl (fun H h => ⟨congrArg (fun z => some (Value.int z)) (by rw [ml_set_f hcu hcu5 (by first | exact Or.inl c14 | exact Or.inr (Or.inl c27) | exact Or.inr (Or.inr (Or.inl c39)) | exact Or.inr (Or.inr (Or.inr (Or.inl c59))) | exact Or.inr (Or.inr (Or.inr (Or.inr (Or.inl c69)))) | exact Or.inr (Or.inr (Or.inr (Or.inr (Or.inr (Or.inl (mo_b_z c77)))))) | exact Or.inr (Or.inr (Or.inr (Or.inr (Or.inr (Or.inr (mo_b_z c85)))))))]; rfl), h⟩)
        · refine mw_steps X 1 (pc' := 63) (lv' := [(2, .int (nI 1)), (1, .int (nI cu)), (0, .ref mb)]) (st' := [.ref mb]) rfl ?_
          refine mw_get X kf_X5_7.fl kc_5 rfl (v := .ref (mb + 1)) (fun H h => ⟨_, h.1, rfl⟩) ?_
          refine mw_steps X 1 (pc' := 68) (lv' := [(2, .int (nI 1)), (1, .int (nI cu)), (0, .ref mb)]) (st' := [.int (nI 12), .ref (mb + 1)]) rfl ?_
          refine mw_iald X (v := W (12)) (12) rfl rfl (fun H h => ⟨_, _, h.2.1, by omega, by decide, rfl⟩) ?_
          refine mw_if_ne X 92 rfl rfl (fun c69 => ?_) (fun c69 => ?_)
          · refine mw_steps X 1 (pc' := 93) (lv' := [(2, .int (nI 1)), (1, .int (nI cu)), (0, .ref mb)]) (st' := [.int (nI 0)]) rfl ?_
            exact mw_zret X rfl (by decide) rfl (fun H h => ⟨congrArg (fun z => some (Value.int z)) (by rw [ml_set_f hcu hcu5 (by first | exact Or.inl c14 | exact Or.inr (Or.inl c27) | exact Or.inr (Or.inr (Or.inl c39)) | exact Or.inr (Or.inr (Or.inr (Or.inl c59))) | exact Or.inr (Or.inr (Or.inr (Or.inr (Or.inl c69)))) | exact Or.inr (Or.inr (Or.inr (Or.inr (Or.inr (Or.inl (mo_b_z c77)))))) | exact Or.inr (Or.inr (Or.inr (Or.inr (Or.inr (Or.inr (mo_b_z c85)))))))]; rfl), h⟩)
          · refine mw_steps X 2 (pc' := 74) (lv' := [(2, .int (nI 1)), (1, .int (nI cu)), (0, .ref mb)]) (st' := [.int (nI 0), .ref mb]) rfl ?_
            refine mw_cV1r X kd_X5_hasAll kv_X5_hasAll kl_X5_116 (ci := 5) rfl rfl (Nat.le_of_ble_eq_true rfl) ⟨Nat.le_of_ble_eq_true rfl, Nat.le_of_ble_eq_true rfl⟩ ⟨Nat.le_of_ble_eq_true rfl, Nat.le_of_ble_eq_true rfl⟩ (fun _ h => h) (fun H h => ⟨⟨_, h.1⟩, cm_hasAll0 hmb h hv⟩) ?_
            refine mw_if_eq X 92 rfl rfl (fun c77 => ?_) (fun c77 => ?_)
            · refine mw_steps X 1 (pc' := 93) (lv' := [(2, .int (nI 1)), (1, .int (nI cu)), (0, .ref mb)]) (st' := [.int (nI 0)]) rfl ?_
              exact mw_zret X rfl (by decide) rfl (fun H h => ⟨congrArg (fun z => some (Value.int z)) (by rw [ml_set_f hcu hcu5 (by first | exact Or.inl c14 | exact Or.inr (Or.inl c27) | exact Or.inr (Or.inr (Or.inl c39)) | exact Or.inr (Or.inr (Or.inr (Or.inl c59))) | exact Or.inr (Or.inr (Or.inr (Or.inr (Or.inl c69)))) | exact Or.inr (Or.inr (Or.inr (Or.inr (Or.inr (Or.inl (mo_b_z c77)))))) | exact Or.inr (Or.inr (Or.inr (Or.inr (Or.inr (Or.inr (mo_b_z c85)))))))]; rfl), h⟩)
            · refine mw_steps X 2 (pc' := 82) (lv' := [(2, .int (nI 1)), (1, .int (nI cu)), (0, .ref mb)]) (st' := [.int (nI 1), .ref mb]) rfl ?_
              refine mw_cV1r X kd_X5_hasAll kv_X5_hasAll kl_X5_116 (ci := 5) rfl rfl (Nat.le_of_ble_eq_true rfl) ⟨Nat.le_of_ble_eq_true rfl, Nat.le_of_ble_eq_true rfl⟩ ⟨Nat.le_of_ble_eq_true rfl, Nat.le_of_ble_eq_true rfl⟩ (fun _ h => h) (fun H h => ⟨⟨_, h.1⟩, cm_hasAll1 hmb h hv⟩) ?_
              refine mw_if_eq X 92 rfl rfl (fun c85 => ?_) (fun c85 => ?_)
              · refine mw_steps X 1 (pc' := 93) (lv' := [(2, .int (nI 1)), (1, .int (nI cu)), (0, .ref mb)]) (st' := [.int (nI 0)]) rfl ?_
                exact mw_zret X rfl (by decide) rfl (fun H h => ⟨congrArg (fun z => some (Value.int z)) (by rw [ml_set_f hcu hcu5 (by first | exact Or.inl c14 | exact Or.inr (Or.inl c27) | exact Or.inr (Or.inr (Or.inl c39)) | exact Or.inr (Or.inr (Or.inr (Or.inl c59))) | exact Or.inr (Or.inr (Or.inr (Or.inr (Or.inl c69)))) | exact Or.inr (Or.inr (Or.inr (Or.inr (Or.inr (Or.inl (mo_b_z c77)))))) | exact Or.inr (Or.inr (Or.inr (Or.inr (Or.inr (Or.inr (mo_b_z c85)))))))]; rfl), h⟩)
              · refine mw_steps X 2 (pc' := 93) (lv' := [(2, .int (nI 1)), (1, .int (nI cu)), (0, .ref mb)]) (st' := [.int (nI 1)]) rfl ?_
                exact mw_zret X rfl (by decide) rfl (fun H h => ⟨congrArg (fun z => some (Value.int z)) (by rw [ml_set_t hcu hcu5 c14 c27 c39 c59 c69 (mo_b_nz c77) (mo_b_nz c85)]; rfl), h⟩)
set_option maxHeartbeats 4000000 in
set_option maxRecDepth 20000 in
theorem cm_wrong {l : Launch} {Γ : mw_C} {mb : Nat} (hmb : Γ.2.2.2 ≤ mb) {W : Nat → Int32} {ρ : md_R} {H : Heap}  (hH : md_I Γ mb W ρ H) (hk : iv_k ρ) : mw_Cr l Γ mX5_wrong 1 0 0 (md_A mb) [.ref mb] H (some (.int (mo_ix (mo_wr W ρ.2.2.2.1 ρ.2.2.2.2.1 ρ.2.2.2.2.2.1 (mo_n ρ.2.2.2.2.2.2)) (mo_n ρ.2.2.2.2.2.2)))) (md_I Γ mb W ρ) := by
  obtain ⟨n, hn2, hn, hrow⟩ := hk
  rw [hn, ml_n (by omega)]
  refine mw_ofG (P := pX5_wrong) (by decide) (md_As hmb) oX5_wrong (Nat.le_of_ble_eq_true rfl) ?_
  intro pg e0 sg mg below meth cd X hs
  refine mw_pre (I' := md_I Γ mb W ρ) (fun H1 h1 => by rw [h1]; exact hH) ?_
  refine mw_steps X 2 (pc' := 2) (lv' := [(1, .int (nI 0)), (0, .ref mb)]) (st' := []) rfl ?_
  refine mw_wf (fun t => n - t) (fun t => t ≤ n ∧ ∀ j, j < t → W (127 + 100 * mo_n (ρ.2.2.2.1 j) + mo_n (ρ.2.2.2.2.1 j)) = ρ.2.2.2.2.2.1 j) (fun _ => md_I Γ mb W ρ) (fun t => [(1, .int (nI t)), (0, .ref mb)]) (fun t ht ih => ?_) 0 ⟨Nat.zero_le _, fun j hj => absurd hj (Nat.not_lt_zero j)⟩
  obtain ⟨ht, hno⟩ := ht
  refine mw_steps X 2 (pc' := 4) (lv' := [(1, .int (nI t)), (0, .ref mb)]) (st' := [.ref mb, .int (nI t)]) rfl ?_
  refine mw_get X kf_X5_119.fl kc_5 rfl (v := .int ρ.2.2.2.2.2.2) (fun H h => ⟨_, h.1, rfl⟩) ?_
  refine mw_icmp_ge X 51 rfl rfl (fun c7 => ?_) (fun c7 => ?_)
  · have htn : t = n := by rw [hn, nI_leI (by omega) (by omega)] at c7; omega
    refine mw_steps X 1 (pc' := 52) (lv' := [(1, .int (nI t)), (0, .ref mb)]) (st' := [.int (-1)]) rfl ?_
    exact mw_iret X rfl rfl (fun H h => ⟨congrArg (fun z => some (Value.int z)) (by subst htn; unfold mo_ix; rw [ml_wr_none hno, if_neg (by omega)]), h⟩)
  · have htn : t < n := by rw [hn, nI_leI (by omega) (by omega)] at c7; omega
    obtain ⟨e, v, b, he, hv, hb, q1, q2, q3⟩ := hrow t htn
    refine mw_steps X 1 (pc' := 11) (lv' := [(1, .int (nI t)), (0, .ref mb)]) (st' := [.ref mb]) rfl ?_
    refine mw_get X kf_X5_7.fl kc_5 rfl (v := .ref (mb + 1)) (fun H h => ⟨_, h.1, rfl⟩) ?_
    refine mw_steps X 3 (pc' := 19) (lv' := [(1, .int (nI t)), (0, .ref mb)]) (st' := [.ref mb, .int (nI 100), .int (nI 127), .ref (mb + 1)]) rfl ?_
    refine mw_get X kf_X5_16.fl kc_5 rfl (v := .ref (mb + 3)) (fun H h => ⟨_, h.1, rfl⟩) ?_
    refine mw_steps X 1 (pc' := 23) (lv' := [(1, .int (nI t)), (0, .ref mb)]) (st' := [.int (nI t), .ref (mb + 3), .int (nI 100), .int (nI 127), .ref (mb + 1)]) rfl ?_
    refine mw_iald X (v := nI e) (t) rfl rfl (fun H h => ⟨_, _, h.2.2.2.1, by omega, by decide, q1⟩) ?_
    refine mw_steps X 3 (pc' := 27) (lv' := [(1, .int (nI t)), (0, .ref mb)]) (st' := [.ref mb, .int ((nI 127) + ((nI 100) * (nI e))), .ref (mb + 1)]) rfl ?_
    refine mw_get X kf_X5_19.fl kc_5 rfl (v := .ref (mb + 4)) (fun H h => ⟨_, h.1, rfl⟩) ?_
    refine mw_steps X 1 (pc' := 31) (lv' := [(1, .int (nI t)), (0, .ref mb)]) (st' := [.int (nI t), .ref (mb + 4), .int ((nI 127) + ((nI 100) * (nI e))), .ref (mb + 1)]) rfl ?_
    refine mw_iald X (v := nI v) (t) rfl rfl (fun H h => ⟨_, _, h.2.2.2.2.1, by omega, by decide, q2⟩) ?_
    refine mw_steps X 1 (pc' := 33) (lv' := [(1, .int (nI t)), (0, .ref mb)]) (st' := [.int (((nI 127) + ((nI 100) * (nI e))) + (nI v)), .ref (mb + 1)]) rfl ?_
    refine mw_iald X (v := W (127 + 100 * e + v)) (127 + 100 * e + v) (by simp only [nI_add, pk_mul]) rfl (fun H h => ⟨_, _, h.2.1, by omega, by decide, rfl⟩) ?_
    refine mw_steps X 1 (pc' := 35) (lv' := [(1, .int (nI t)), (0, .ref mb)]) (st' := [.ref mb, .int (W (127 + 100 * e + v))]) rfl ?_
    refine mw_get X kf_X5_22.fl kc_5 rfl (v := .ref (mb + 5)) (fun H h => ⟨_, h.1, rfl⟩) ?_
    refine mw_steps X 1 (pc' := 39) (lv' := [(1, .int (nI t)), (0, .ref mb)]) (st' := [.int (nI t), .ref (mb + 5), .int (W (127 + 100 * e + v))]) rfl ?_
    refine mw_iald X (v := ρ.2.2.2.2.2.1 t) (t) rfl rfl (fun H h => ⟨_, _, h.2.2.2.2.2, by omega, by decide, rfl⟩) ?_
    refine mw_icmp_eq X 45 rfl rfl (fun c40 => ?_) (fun c40 => ?_)
    · refine mw_steps X 2 (pc' := 2) (lv' := [(1, .int ((nI t) + (nI 1))), (0, .ref mb)]) (st' := []) rfl ?_
      refine mw_lveq (lv' := [(1, .int (nI (t + 1))), (0, .ref mb)]) (by simp only [nI_add]) ?_
      exact ih (t + 1) ⟨by omega, ml_succ hno (by rw [q1, q2, ml_n (by omega), ml_n (by omega)]; exact c40)⟩ (by omega)
    · refine mw_steps X 1 (pc' := 44) (lv' := [(1, .int (nI t)), (0, .ref mb)]) (st' := [.int (nI t)]) rfl ?_
      exact mw_iret X rfl rfl (fun H h => ⟨congrArg (fun z => some (Value.int z)) (by unfold mo_ix; rw [ml_wr_is htn q1 q2 he hv c40 hno, if_pos htn]), h⟩)
