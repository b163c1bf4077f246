set_option maxHeartbeats 4000000 in
set_option maxRecDepth 20000 in
theorem zx_wrong {l : Launch} {Γ : mw_C} {x : Nat} (hx : Γ.2.2.2 ≤ x) {W : Nat → Int32} {ρ : md_R} {H : Heap} {c : Nat} (hH : mx_I Γ x W ρ H) (hv : iv c W) (hk : iv_k ρ) : mw_Cr l Γ mX4_firstWrong 3 0 0 (mx_A x) [.ref x] H (some (.int (mo_ix (mo_wr W ρ.2.2.2.1 ρ.2.2.2.2.1 ρ.2.2.2.2.2.1 (mo_n ρ.2.2.2.2.2.2)) (mo_n ρ.2.2.2.2.2.2)))) (mx_I Γ x W ρ) := by
  have hb : Γ.2.2.2 ≤ x + 1 := by omega
  obtain ⟨n, hn2, hn, hrow⟩ := hk
  have hnn : mo_n ρ.2.2.2.2.2.2 = n := by rw [hn, ml_n (by omega)]
  rw [hnn]
  refine mw_ofG (P := pX4_firstWrong) (by decide) (mx_As hx) oX4_firstWrong (Nat.le_of_ble_eq_true rfl) ?_
  intro pg e0 sg mg below meth cd X hs
  refine mw_pre (I' := mx_I Γ x W ρ) (fun H1 h1 => by rw [h1]; exact hH) ?_
  refine mw_steps X 2 (pc' := 2) (lv' := [(1, .int (nI 0)), (0, .ref x)]) (st' := []) rfl ?_
  refine mw_wf (fun t => n - t) (fun t => t ≤ n ∧ ∀ j, j < t → W (127 + 100 * mo_n (ρ.2.2.2.1 j) + mo_n (ρ.2.2.2.2.1 j)) = ρ.2.2.2.2.2.1 j) (fun _ => mx_I Γ x W ρ) (fun t => [(1, .int (nI t)), (0, .ref x)]) (fun t ht ih => ?_) 0 ⟨Nat.zero_le _, fun j hj => absurd hj (Nat.not_lt_zero j)⟩
  obtain ⟨ht, hno⟩ := ht
  refine mw_steps X 2 (pc' := 4) (lv' := [(1, .int (nI t)), (0, .ref x)]) (st' := [.ref x, .int (nI t)]) rfl ?_
  refine mw_get X kf_X4_21.fl kc_4 rfl (v := .ref (x + 27)) (fun H h => ⟨_, h.1, rfl⟩) ?_
  refine mw_cV0r X kd_X2_size kv_X2_size kl_X4_36 (ci := 2) rfl rfl (Nat.le_of_ble_eq_true rfl) ⟨Nat.le_of_ble_eq_true rfl, Nat.le_of_ble_eq_true rfl⟩ ⟨Nat.le_of_ble_eq_true rfl, Nat.le_of_ble_eq_true rfl⟩ (fun q z => mx_subB z) (fun H h => ⟨h.o_book, xb_size hx h⟩) ?_
  refine mw_top (y := nI n) (congrArg nI hnn) ?_
  refine mw_icmp_ge X 75 rfl rfl (fun c10 => ?_) (fun c10 => ?_)
  · have htn : t = n := by rw [nI_leI (by omega) (by omega)] at c10; omega
    refine mw_steps X 1 (pc' := 76) (lv' := [(1, .int (nI t)), (0, .ref x)]) (st' := [.int (-1)]) rfl ?_
    exact mw_iret X rfl rfl (fun H h => ⟨congrArg (fun z => some (Value.int z)) (by subst htn; unfold mo_ix; rw [ml_wr_none hno, if_neg (by omega)]), h⟩)
  · have htn : t < n := by rw [nI_leI (by omega) (by omega)] at c10; omega
    obtain ⟨e, v, b0, he, hv2, hb0, hre, hrv, hrb⟩ := hrow t htn
    have hW01 := (hv.2.2.2.2.2.2.2.1 e he).2.2.2 v (by omega)
    rcases (show e = 0 ∨ e = 1 by omega) with rfl | rfl
    · rcases (show b0 = 0 ∨ b0 = 1 by omega) with rfl | rfl
      · rcases hW01 with hW1 | hW1
        · refine mw_steps X 1 (pc' := 14) (lv' := [(1, .int (nI t)), (0, .ref x)]) (st' := [.ref x]) rfl ?_
          refine mw_get X kf_X4_10.fl kc_4 rfl (v := .ref (x + 1)) (fun H h => ⟨_, h.1, rfl⟩) ?_
          refine mw_steps X 1 (pc' := 18) (lv' := [(1, .int (nI t)), (0, .ref x)]) (st' := [.ref x, .ref (x + 1)]) rfl ?_
          refine mw_get X kf_X4_21.fl kc_4 rfl (v := .ref (x + 27)) (fun H h => ⟨_, h.1, rfl⟩) ?_
          refine mw_steps X 2 (pc' := 23) (lv' := [(1, .int (nI t)), (0, .ref x)]) (st' := [.int (nI 0), .int (nI t), .ref (x + 27), .ref (x + 1)]) rfl ?_
          refine mw_cV2r X kd_X2_at kv_X2_at kl_X4_198 (ci := 2) rfl rfl (Nat.le_of_ble_eq_true rfl) ⟨Nat.le_of_ble_eq_true rfl, Nat.le_of_ble_eq_true rfl⟩ ⟨Nat.le_of_ble_eq_true rfl, Nat.le_of_ble_eq_true rfl⟩ (fun q z => mx_subB z) (fun H h => ⟨h.o_book, xb_at0 hx h (by rw [hnn]; exact htn)⟩) ?_
          refine mw_top (y := nI 0) hre ?_
          refine mw_cV1r X kd_X3_endOf kv_X3_endOf kl_X4_100 (ci := 3) rfl rfl (Nat.le_of_ble_eq_true rfl) ⟨Nat.le_of_ble_eq_true rfl, Nat.le_of_ble_eq_true rfl⟩ ⟨Nat.le_of_ble_eq_true rfl, Nat.le_of_ble_eq_true rfl⟩ (fun q z => mx_sub ((fun _ z => z) q z)) (fun H h => ⟨⟨_, h.2.1.1⟩, h.lift0 (fun _ z => z) (have h := h.2.1; zw_endOf0 hb h)⟩) ?_
          refine mw_get X kf_X4_107 kc_0 rfl (v := .ref (x + 1 + 16)) (fun H h => ⟨_, h.2.1.2.2.2.2.2.2.2.2.1, rfl⟩) ?_
          refine mw_steps X 1 (pc' := 33) (lv' := [(1, .int (nI t)), (0, .ref x)]) (st' := [.ref x, .ref (x + 1 + 16)]) rfl ?_
          refine mw_get X kf_X4_21.fl kc_4 rfl (v := .ref (x + 27)) (fun H h => ⟨_, h.1, rfl⟩) ?_
          refine mw_steps X 2 (pc' := 38) (lv' := [(1, .int (nI t)), (0, .ref x)]) (st' := [.int (nI 1), .int (nI t), .ref (x + 27), .ref (x + 1 + 16)]) rfl ?_
          refine mw_cV2r X kd_X2_at kv_X2_at kl_X4_198 (ci := 2) rfl rfl (Nat.le_of_ble_eq_true rfl) ⟨Nat.le_of_ble_eq_true rfl, Nat.le_of_ble_eq_true rfl⟩ ⟨Nat.le_of_ble_eq_true rfl, Nat.le_of_ble_eq_true rfl⟩ (fun q z => mx_subB z) (fun H h => ⟨h.o_book, xb_at1 hx h (by rw [hnn]; exact htn)⟩) ?_
          refine mw_top (y := nI v) hrv ?_
          refine mw_cV1r X kd_X1_has kv_X1_has kl_X4_135 (ci := 1) rfl rfl (Nat.le_of_ble_eq_true rfl) ⟨Nat.le_of_ble_eq_true rfl, Nat.le_of_ble_eq_true rfl⟩ ⟨Nat.le_of_ble_eq_true rfl, Nat.le_of_ble_eq_true rfl⟩ (fun q z => mx_sub ((ws_sub 16 (by omega)) q z)) (fun H h => ⟨(have h := h.2.1; h.o_words0), h.lift0 (ws_sub 16 (by omega)) (have h := h.2.1; y9_has hb h)⟩) ?_
          refine mw_top (y := nI 0) (by rw [mo_bl_n (show v < 100 by omega) (by omega), ml_n (by omega), Bool.true_and, hW1]; rfl) ?_
          refine mw_steps X 3 (pc' := 47) (lv' := [(2, .int (nI 0)), (1, .int (nI t)), (0, .ref x)]) (st' := [.ref x, .int (nI 0)]) rfl ?_
          refine mw_get X kf_X4_21.fl kc_4 rfl (v := .ref (x + 27)) (fun H h => ⟨_, h.1, rfl⟩) ?_
          refine mw_steps X 2 (pc' := 52) (lv' := [(2, .int (nI 0)), (1, .int (nI t)), (0, .ref x)]) (st' := [.int (nI 2), .int (nI t), .ref (x + 27), .int (nI 0)]) rfl ?_
          refine mw_cV2r X kd_X2_at kv_X2_at kl_X4_198 (ci := 2) rfl rfl (Nat.le_of_ble_eq_true rfl) ⟨Nat.le_of_ble_eq_true rfl, Nat.le_of_ble_eq_true rfl⟩ ⟨Nat.le_of_ble_eq_true rfl, Nat.le_of_ble_eq_true rfl⟩ (fun q z => mx_subB z) (fun H h => ⟨h.o_book, xb_at2 hx h (by rw [hnn]; exact htn)⟩) ?_
          refine mw_top (y := nI 0) hrb ?_
          refine mw_steps X 1 (pc' := 56) (lv' := [(2, .int (nI 0)), (1, .int (nI t)), (0, .ref x)]) (st' := [.int (nI 1), .int (nI 0), .int (nI 0)]) rfl ?_
          refine mw_icmp_ne X 63 rfl rfl (fun c56 => ?_) (fun c56 => absurd c56 (by decide))
          refine mw_steps X 1 (pc' := 64) (lv' := [(2, .int (nI 0)), (1, .int (nI t)), (0, .ref x)]) (st' := [.int (nI 0), .int (nI 0)]) rfl ?_
          refine mw_icmp_eq X 69 rfl rfl (fun c64 => ?_) (fun c64 => absurd (by decide) c64)
          refine mw_steps X 2 (pc' := 2) (lv' := [(1, .int ((nI t) + (nI 1))), (2, .int (nI 0)), (0, .ref x)]) (st' := []) rfl ?_
          refine mw_lvs [0, 2] (lv' := [(1, .int ((nI t) + (nI 1))), (0, .ref x)]) rfl ?_
          refine mw_lveq (lv' := [(1, .int (nI (t + 1))), (0, .ref x)]) (by simp only [nI_add]) ?_
          exact ih (t + 1) ⟨by omega, ml_succ (Q := fun j => W (127 + 100 * mo_n (ρ.2.2.2.1 j) + mo_n (ρ.2.2.2.2.1 j)) = ρ.2.2.2.2.2.1 j) hno (by rw [hre, hrv, hrb, ml_n (show 0 ≤ 100000 by omega), ml_n (show v ≤ 100000 by omega)]; exact hW1)⟩ (by omega)
        · refine mw_steps X 1 (pc' := 14) (lv' := [(1, .int (nI t)), (0, .ref x)]) (st' := [.ref x]) rfl ?_
          refine mw_get X kf_X4_10.fl kc_4 rfl (v := .ref (x + 1)) (fun H h => ⟨_, h.1, rfl⟩) ?_
          refine mw_steps X 1 (pc' := 18) (lv' := [(1, .int (nI t)), (0, .ref x)]) (st' := [.ref x, .ref (x + 1)]) rfl ?_
          refine mw_get X kf_X4_21.fl kc_4 rfl (v := .ref (x + 27)) (fun H h => ⟨_, h.1, rfl⟩) ?_
          refine mw_steps X 2 (pc' := 23) (lv' := [(1, .int (nI t)), (0, .ref x)]) (st' := [.int (nI 0), .int (nI t), .ref (x + 27), .ref (x + 1)]) rfl ?_
          refine mw_cV2r X kd_X2_at kv_X2_at kl_X4_198 (ci := 2) rfl rfl (Nat.le_of_ble_eq_true rfl) ⟨Nat.le_of_ble_eq_true rfl, Nat.le_of_ble_eq_true rfl⟩ ⟨Nat.le_of_ble_eq_true rfl, Nat.le_of_ble_eq_true rfl⟩ (fun q z => mx_subB z) (fun H h => ⟨h.o_book, xb_at0 hx h (by rw [hnn]; exact htn)⟩) ?_
          refine mw_top (y := nI 0) hre ?_
          refine mw_cV1r X kd_X3_endOf kv_X3_endOf kl_X4_100 (ci := 3) rfl rfl (Nat.le_of_ble_eq_true rfl) ⟨Nat.le_of_ble_eq_true rfl, Nat.le_of_ble_eq_true rfl⟩ ⟨Nat.le_of_ble_eq_true rfl, Nat.le_of_ble_eq_true rfl⟩ (fun q z => mx_sub ((fun _ z => z) q z)) (fun H h => ⟨⟨_, h.2.1.1⟩, h.lift0 (fun _ z => z) (have h := h.2.1; zw_endOf0 hb h)⟩) ?_
          refine mw_get X kf_X4_107 kc_0 rfl (v := .ref (x + 1 + 16)) (fun H h => ⟨_, h.2.1.2.2.2.2.2.2.2.2.1, rfl⟩) ?_
          refine mw_steps X 1 (pc' := 33) (lv' := [(1, .int (nI t)), (0, .ref x)]) (st' := [.ref x, .ref (x + 1 + 16)]) rfl ?_
          refine mw_get X kf_X4_21.fl kc_4 rfl (v := .ref (x + 27)) (fun H h => ⟨_, h.1, rfl⟩) ?_
          refine mw_steps X 2 (pc' := 38) (lv' := [(1, .int (nI t)), (0, .ref x)]) (st' := [.int (nI 1), .int (nI t), .ref (x + 27), .ref (x + 1 + 16)]) rfl ?_
          refine mw_cV2r X kd_X2_at kv_X2_at kl_X4_198 (ci := 2) rfl rfl (Nat.le_of_ble_eq_true rfl) ⟨Nat.le_of_ble_eq_true rfl, Nat.le_of_ble_eq_true rfl⟩ ⟨Nat.le_of_ble_eq_true rfl, Nat.le_of_ble_eq_true rfl⟩ (fun q z => mx_subB z) (fun H h => ⟨h.o_book, xb_at1 hx h (by rw [hnn]; exact htn)⟩) ?_
          refine mw_top (y := nI v) hrv ?_
          refine mw_cV1r X kd_X1_has kv_X1_has kl_X4_135 (ci := 1) rfl rfl (Nat.le_of_ble_eq_true rfl) ⟨Nat.le_of_ble_eq_true rfl, Nat.le_of_ble_eq_true rfl⟩ ⟨Nat.le_of_ble_eq_true rfl, Nat.le_of_ble_eq_true rfl⟩ (fun q z => mx_sub ((ws_sub 16 (by omega)) q z)) (fun H h => ⟨(have h := h.2.1; h.o_words0), h.lift0 (ws_sub 16 (by omega)) (have h := h.2.1; y9_has hb h)⟩) ?_
          refine mw_top (y := nI 1) (by rw [mo_bl_n (show v < 100 by omega) (by omega), ml_n (by omega), Bool.true_and, hW1]; rfl) ?_
          refine mw_steps X 3 (pc' := 47) (lv' := [(2, .int (nI 1)), (1, .int (nI t)), (0, .ref x)]) (st' := [.ref x, .int (nI 1)]) rfl ?_
          refine mw_get X kf_X4_21.fl kc_4 rfl (v := .ref (x + 27)) (fun H h => ⟨_, h.1, rfl⟩) ?_
          refine mw_steps X 2 (pc' := 52) (lv' := [(2, .int (nI 1)), (1, .int (nI t)), (0, .ref x)]) (st' := [.int (nI 2), .int (nI t), .ref (x + 27), .int (nI 1)]) rfl ?_
          refine mw_cV2r X kd_X2_at kv_X2_at kl_X4_198 (ci := 2) rfl rfl (Nat.le_of_ble_eq_true rfl) ⟨Nat.le_of_ble_eq_true rfl, Nat.le_of_ble_eq_true rfl⟩ ⟨Nat.le_of_ble_eq_true rfl, Nat.le_of_ble_eq_true rfl⟩ (fun q z => mx_subB z) (fun H h => ⟨h.o_book, xb_at2 hx h (by rw [hnn]; exact htn)⟩) ?_
          refine mw_top (y := nI 0) hrb ?_
          refine mw_steps X 1 (pc' := 56) (lv' := [(2, .int (nI 1)), (1, .int (nI t)), (0, .ref x)]) (st' := [.int (nI 1), .int (nI 0), .int (nI 1)]) rfl ?_
          refine mw_icmp_ne X 63 rfl rfl (fun c56 => ?_) (fun c56 => absurd c56 (by decide))
          refine mw_steps X 1 (pc' := 64) (lv' := [(2, .int (nI 1)), (1, .int (nI t)), (0, .ref x)]) (st' := [.int (nI 0), .int (nI 1)]) rfl ?_
          refine mw_icmp_eq X 69 rfl rfl (fun c64 => absurd c64 (by decide)) (fun c64 => ?_)
          refine mw_steps X 1 (pc' := 68) (lv' := [(2, .int (nI 1)), (1, .int (nI t)), (0, .ref x)]) (st' := [.int (nI t)]) rfl ?_
          exact mw_iret X rfl rfl (fun H h => ⟨congrArg (fun z => some (Value.int z)) (by unfold mo_ix; rw [ml_wr_is htn hre hrv he hv2 (by rw [hW1, hrb]; decide) hno, if_pos htn]), h⟩)
      · rcases hW01 with hW1 | hW1
        · refine mw_steps X 1 (pc' := 14) (lv' := [(1, .int (nI t)), (0, .ref x)]) (st' := [.ref x]) rfl ?_
          refine mw_get X kf_X4_10.fl kc_4 rfl (v := .ref (x + 1)) (fun H h => ⟨_, h.1, rfl⟩) ?_
          refine mw_steps X 1 (pc' := 18) (lv' := [(1, .int (nI t)), (0, .ref x)]) (st' := [.ref x, .ref (x + 1)]) rfl ?_
          refine mw_get X kf_X4_21.fl kc_4 rfl (v := .ref (x + 27)) (fun H h => ⟨_, h.1, rfl⟩) ?_
          refine mw_steps X 2 (pc' := 23) (lv' := [(1, .int (nI t)), (0, .ref x)]) (st' := [.int (nI 0), .int (nI t), .ref (x + 27), .ref (x + 1)]) rfl ?_
          refine mw_cV2r X kd_X2_at kv_X2_at kl_X4_198 (ci := 2) rfl rfl (Nat.le_of_ble_eq_true rfl) ⟨Nat.le_of_ble_eq_true rfl, Nat.le_of_ble_eq_true rfl⟩ ⟨Nat.le_of_ble_eq_true rfl, Nat.le_of_ble_eq_true rfl⟩ (fun q z => mx_subB z) (fun H h => ⟨h.o_book, xb_at0 hx h (by rw [hnn]; exact htn)⟩) ?_
          refine mw_top (y := nI 0) hre ?_
          refine mw_cV1r X kd_X3_endOf kv_X3_endOf kl_X4_100 (ci := 3) rfl rfl (Nat.le_of_ble_eq_true rfl) ⟨Nat.le_of_ble_eq_true rfl, Nat.le_of_ble_eq_true rfl⟩ ⟨Nat.le_of_ble_eq_true rfl, Nat.le_of_ble_eq_true rfl⟩ (fun q z => mx_sub ((fun _ z => z) q z)) (fun H h => ⟨⟨_, h.2.1.1⟩, h.lift0 (fun _ z => z) (have h := h.2.1; zw_endOf0 hb h)⟩) ?_
          refine mw_get X kf_X4_107 kc_0 rfl (v := .ref (x + 1 + 16)) (fun H h => ⟨_, h.2.1.2.2.2.2.2.2.2.2.1, rfl⟩) ?_
          refine mw_steps X 1 (pc' := 33) (lv' := [(1, .int (nI t)), (0, .ref x)]) (st' := [.ref x, .ref (x + 1 + 16)]) rfl ?_
          refine mw_get X kf_X4_21.fl kc_4 rfl (v := .ref (x + 27)) (fun H h => ⟨_, h.1, rfl⟩) ?_
          refine mw_steps X 2 (pc' := 38) (lv' := [(1, .int (nI t)), (0, .ref x)]) (st' := [.int (nI 1), .int (nI t), .ref (x + 27), .ref (x + 1 + 16)]) rfl ?_
          refine mw_cV2r X kd_X2_at kv_X2_at kl_X4_198 (ci := 2) rfl rfl (Nat.le_of_ble_eq_true rfl) ⟨Nat.le_of_ble_eq_true rfl, Nat.le_of_ble_eq_true rfl⟩ ⟨Nat.le_of_ble_eq_true rfl, Nat.le_of_ble_eq_true rfl⟩ (fun q z => mx_subB z) (fun H h => ⟨h.o_book, xb_at1 hx h (by rw [hnn]; exact htn)⟩) ?_
          refine mw_top (y := nI v) hrv ?_
          refine mw_cV1r X kd_X1_has kv_X1_has kl_X4_135 (ci := 1) rfl rfl (Nat.le_of_ble_eq_true rfl) ⟨Nat.le_of_ble_eq_true rfl, Nat.le_of_ble_eq_true rfl⟩ ⟨Nat.le_of_ble_eq_true rfl, Nat.le_of_ble_eq_true rfl⟩ (fun q z => mx_sub ((ws_sub 16 (by omega)) q z)) (fun H h => ⟨(have h := h.2.1; h.o_words0), h.lift0 (ws_sub 16 (by omega)) (have h := h.2.1; y9_has hb h)⟩) ?_
          refine mw_top (y := nI 0) (by rw [mo_bl_n (show v < 100 by omega) (by omega), ml_n (by omega), Bool.true_and, hW1]; rfl) ?_
          refine mw_steps X 3 (pc' := 47) (lv' := [(2, .int (nI 0)), (1, .int (nI t)), (0, .ref x)]) (st' := [.ref x, .int (nI 0)]) rfl ?_
          refine mw_get X kf_X4_21.fl kc_4 rfl (v := .ref (x + 27)) (fun H h => ⟨_, h.1, rfl⟩) ?_
          refine mw_steps X 2 (pc' := 52) (lv' := [(2, .int (nI 0)), (1, .int (nI t)), (0, .ref x)]) (st' := [.int (nI 2), .int (nI t), .ref (x + 27), .int (nI 0)]) rfl ?_
          refine mw_cV2r X kd_X2_at kv_X2_at kl_X4_198 (ci := 2) rfl rfl (Nat.le_of_ble_eq_true rfl) ⟨Nat.le_of_ble_eq_true rfl, Nat.le_of_ble_eq_true rfl⟩ ⟨Nat.le_of_ble_eq_true rfl, Nat.le_of_ble_eq_true rfl⟩ (fun q z => mx_subB z) (fun H h => ⟨h.o_book, xb_at2 hx h (by rw [hnn]; exact htn)⟩) ?_
          refine mw_top (y := nI 1) hrb ?_
          refine mw_steps X 1 (pc' := 56) (lv' := [(2, .int (nI 0)), (1, .int (nI t)), (0, .ref x)]) (st' := [.int (nI 1), .int (nI 1), .int (nI 0)]) rfl ?_
          refine mw_icmp_ne X 63 rfl rfl (fun c56 => absurd (by decide) c56) (fun c56 => ?_)
          refine mw_steps X 2 (pc' := 64) (lv' := [(2, .int (nI 0)), (1, .int (nI t)), (0, .ref x)]) (st' := [.int (nI 1), .int (nI 0)]) rfl ?_
          refine mw_icmp_eq X 69 rfl rfl (fun c64 => absurd c64 (by decide)) (fun c64 => ?_)
          refine mw_steps X 1 (pc' := 68) (lv' := [(2, .int (nI 0)), (1, .int (nI t)), (0, .ref x)]) (st' := [.int (nI t)]) rfl ?_
          exact mw_iret X rfl rfl (fun H h => ⟨congrArg (fun z => some (Value.int z)) (by unfold mo_ix; rw [ml_wr_is htn hre hrv he hv2 (by rw [hW1, hrb]; decide) hno, if_pos htn]), h⟩)
        · refine mw_steps X 1 (pc' := 14) (lv' := [(1, .int (nI t)), (0, .ref x)]) (st' := [.ref x]) rfl ?_
          refine mw_get X kf_X4_10.fl kc_4 rfl (v := .ref (x + 1)) (fun H h => ⟨_, h.1, rfl⟩) ?_
          refine mw_steps X 1 (pc' := 18) (lv' := [(1, .int (nI t)), (0, .ref x)]) (st' := [.ref x, .ref (x + 1)]) rfl ?_
          refine mw_get X kf_X4_21.fl kc_4 rfl (v := .ref (x + 27)) (fun H h => ⟨_, h.1, rfl⟩) ?_
          refine mw_steps X 2 (pc' := 23) (lv' := [(1, .int (nI t)), (0, .ref x)]) (st' := [.int (nI 0), .int (nI t), .ref (x + 27), .ref (x + 1)]) rfl ?_
          refine mw_cV2r X kd_X2_at kv_X2_at kl_X4_198 (ci := 2) rfl rfl (Nat.le_of_ble_eq_true rfl) ⟨Nat.le_of_ble_eq_true rfl, Nat.le_of_ble_eq_true rfl⟩ ⟨Nat.le_of_ble_eq_true rfl, Nat.le_of_ble_eq_true rfl⟩ (fun q z => mx_subB z) (fun H h => ⟨h.o_book, xb_at0 hx h (by rw [hnn]; exact htn)⟩) ?_
          refine mw_top (y := nI 0) hre ?_
          refine mw_cV1r X kd_X3_endOf kv_X3_endOf kl_X4_100 (ci := 3) rfl rfl (Nat.le_of_ble_eq_true rfl) ⟨Nat.le_of_ble_eq_true rfl, Nat.le_of_ble_eq_true rfl⟩ ⟨Nat.le_of_ble_eq_true rfl, Nat.le_of_ble_eq_true rfl⟩ (fun q z => mx_sub ((fun _ z => z) q z)) (fun H h => ⟨⟨_, h.2.1.1⟩, h.lift0 (fun _ z => z) (have h := h.2.1; zw_endOf0 hb h)⟩) ?_
          refine mw_get X kf_X4_107 kc_0 rfl (v := .ref (x + 1 + 16)) (fun H h => ⟨_, h.2.1.2.2.2.2.2.2.2.2.1, rfl⟩) ?_
          refine mw_steps X 1 (pc' := 33) (lv' := [(1, .int (nI t)), (0, .ref x)]) (st' := [.ref x, .ref (x + 1 + 16)]) rfl ?_
          refine mw_get X kf_X4_21.fl kc_4 rfl (v := .ref (x + 27)) (fun H h => ⟨_, h.1, rfl⟩) ?_
          refine mw_steps X 2 (pc' := 38) (lv' := [(1, .int (nI t)), (0, .ref x)]) (st' := [.int (nI 1), .int (nI t), .ref (x + 27), .ref (x + 1 + 16)]) rfl ?_
          refine mw_cV2r X kd_X2_at kv_X2_at kl_X4_198 (ci := 2) rfl rfl (Nat.le_of_ble_eq_true rfl) ⟨Nat.le_of_ble_eq_true rfl, Nat.le_of_ble_eq_true rfl⟩ ⟨Nat.le_of_ble_eq_true rfl, Nat.le_of_ble_eq_true rfl⟩ (fun q z => mx_subB z) (fun H h => ⟨h.o_book, xb_at1 hx h (by rw [hnn]; exact htn)⟩) ?_
          refine mw_top (y := nI v) hrv ?_
          refine mw_cV1r X kd_X1_has kv_X1_has kl_X4_135 (ci := 1) rfl rfl (Nat.le_of_ble_eq_true rfl) ⟨Nat.le_of_ble_eq_true rfl, Nat.le_of_ble_eq_true rfl⟩ ⟨Nat.le_of_ble_eq_true rfl, Nat.le_of_ble_eq_true rfl⟩ (fun q z => mx_sub ((ws_sub 16 (by omega)) q z)) (fun H h => ⟨(have h := h.2.1; h.o_words0), h.lift0 (ws_sub 16 (by omega)) (have h := h.2.1; y9_has hb h)⟩) ?_
          refine mw_top (y := nI 1) (by rw [mo_bl_n (show v < 100 by omega) (by omega), ml_n (by omega), Bool.true_and, hW1]; rfl) ?_
          refine mw_steps X 3 (pc' := 47) (lv' := [(2, .int (nI 1)), (1, .int (nI t)), (0, .ref x)]) (st' := [.ref x, .int (nI 1)]) rfl ?_
          refine mw_get X kf_X4_21.fl kc_4 rfl (v := .ref (x + 27)) (fun H h => ⟨_, h.1, rfl⟩) ?_
          refine mw_steps X 2 (pc' := 52) (lv' := [(2, .int (nI 1)), (1, .int (nI t)), (0, .ref x)]) (st' := [.int (nI 2), .int (nI t), .ref (x + 27), .int (nI 1)]) rfl ?_
          refine mw_cV2r X kd_X2_at kv_X2_at kl_X4_198 (ci := 2) rfl rfl (Nat.le_of_ble_eq_true rfl) ⟨Nat.le_of_ble_eq_true rfl, Nat.le_of_ble_eq_true rfl⟩ ⟨Nat.le_of_ble_eq_true rfl, Nat.le_of_ble_eq_true rfl⟩ (fun q z => mx_subB z) (fun H h => ⟨h.o_book, xb_at2 hx h (by rw [hnn]; exact htn)⟩) ?_
          refine mw_top (y := nI 1) hrb ?_
          refine mw_steps X 1 (pc' := 56) (lv' := [(2, .int (nI 1)), (1, .int (nI t)), (0, .ref x)]) (st' := [.int (nI 1), .int (nI 1), .int (nI 1)]) rfl ?_
          refine mw_icmp_ne X 63 rfl rfl (fun c56 => absurd (by decide) c56) (fun c56 => ?_)
          refine mw_steps X 2 (pc' := 64) (lv' := [(2, .int (nI 1)), (1, .int (nI t)), (0, .ref x)]) (st' := [.int (nI 1), .int (nI 1)]) rfl ?_
          refine mw_icmp_eq X 69 rfl rfl (fun c64 => ?_) (fun c64 => absurd (by decide) c64)
          refine mw_steps X 2 (pc' := 2) (lv' := [(1, .int ((nI t) + (nI 1))), (2, .int (nI 1)), (0, .ref x)]) (st' := []) rfl ?_
          refine mw_lvs [0, 2] (lv' := [(1, .int ((nI t) + (nI 1))), (0, .ref x)]) rfl ?_
          refine mw_lveq (lv' := [(1, .int (nI (t + 1))), (0, .ref x)]) (by simp only [nI_add]) ?_
          exact ih (t + 1) ⟨by omega, ml_succ (Q := fun j => W (127 + 100 * mo_n (ρ.2.2.2.1 j) + mo_n (ρ.2.2.2.2.1 j)) = ρ.2.2.2.2.2.1 j) hno (by rw [hre, hrv, hrb, ml_n (show 0 ≤ 100000 by omega), ml_n (show v ≤ 100000 by omega)]; exact hW1)⟩ (by omega)
    · rcases (show b0 = 0 ∨ b0 = 1 by omega) with rfl | rfl
      · rcases hW01 with hW1 | hW1
        · refine mw_steps X 1 (pc' := 14) (lv' := [(1, .int (nI t)), (0, .ref x)]) (st' := [.ref x]) rfl ?_
          refine mw_get X kf_X4_10.fl kc_4 rfl (v := .ref (x + 1)) (fun H h => ⟨_, h.1, rfl⟩) ?_
          refine mw_steps X 1 (pc' := 18) (lv' := [(1, .int (nI t)), (0, .ref x)]) (st' := [.ref x, .ref (x + 1)]) rfl ?_
          refine mw_get X kf_X4_21.fl kc_4 rfl (v := .ref (x + 27)) (fun H h => ⟨_, h.1, rfl⟩) ?_
          refine mw_steps X 2 (pc' := 23) (lv' := [(1, .int (nI t)), (0, .ref x)]) (st' := [.int (nI 0), .int (nI t), .ref (x + 27), .ref (x + 1)]) rfl ?_
          refine mw_cV2r X kd_X2_at kv_X2_at kl_X4_198 (ci := 2) rfl rfl (Nat.le_of_ble_eq_true rfl) ⟨Nat.le_of_ble_eq_true rfl, Nat.le_of_ble_eq_true rfl⟩ ⟨Nat.le_of_ble_eq_true rfl, Nat.le_of_ble_eq_true rfl⟩ (fun q z => mx_subB z) (fun H h => ⟨h.o_book, xb_at0 hx h (by rw [hnn]; exact htn)⟩) ?_
          refine mw_top (y := nI 1) hre ?_
          refine mw_cV1r X kd_X3_endOf kv_X3_endOf kl_X4_100 (ci := 3) rfl rfl (Nat.le_of_ble_eq_true rfl) ⟨Nat.le_of_ble_eq_true rfl, Nat.le_of_ble_eq_true rfl⟩ ⟨Nat.le_of_ble_eq_true rfl, Nat.le_of_ble_eq_true rfl⟩ (fun q z => mx_sub ((fun _ z => z) q z)) (fun H h => ⟨⟨_, h.2.1.1⟩, h.lift0 (fun _ z => z) (have h := h.2.1; zw_endOf1 hb h)⟩) ?_
          refine mw_get X kf_X4_107 kc_0 rfl (v := .ref (x + 1 + 21)) (fun H h => ⟨_, h.2.1.2.2.2.2.2.2.2.2.2.2.2.1, rfl⟩) ?_
          refine mw_steps X 1 (pc' := 33) (lv' := [(1, .int (nI t)), (0, .ref x)]) (st' := [.ref x, .ref (x + 1 + 21)]) rfl ?_
          refine mw_get X kf_X4_21.fl kc_4 rfl (v := .ref (x + 27)) (fun H h => ⟨_, h.1, rfl⟩) ?_
          refine mw_steps X 2 (pc' := 38) (lv' := [(1, .int (nI t)), (0, .ref x)]) (st' := [.int (nI 1), .int (nI t), .ref (x + 27), .ref (x + 1 + 21)]) rfl ?_
          refine mw_cV2r X kd_X2_at kv_X2_at kl_X4_198 (ci := 2) rfl rfl (Nat.le_of_ble_eq_true rfl) ⟨Nat.le_of_ble_eq_true rfl, Nat.le_of_ble_eq_true rfl⟩ ⟨Nat.le_of_ble_eq_true rfl, Nat.le_of_ble_eq_true rfl⟩ (fun q z => mx_subB z) (fun H h => ⟨h.o_book, xb_at1 hx h (by rw [hnn]; exact htn)⟩) ?_
          refine mw_top (y := nI v) hrv ?_
          refine mw_cV1r X kd_X1_has kv_X1_has kl_X4_135 (ci := 1) rfl rfl (Nat.le_of_ble_eq_true rfl) ⟨Nat.le_of_ble_eq_true rfl, Nat.le_of_ble_eq_true rfl⟩ ⟨Nat.le_of_ble_eq_true rfl, Nat.le_of_ble_eq_true rfl⟩ (fun q z => mx_sub ((ws_sub 21 (by omega)) q z)) (fun H h => ⟨(have h := h.2.1; h.o_words1), h.lift0 (ws_sub 21 (by omega)) (have h := h.2.1; y12_has hb h)⟩) ?_
          refine mw_top (y := nI 0) (by rw [mo_bl_n (show v < 100 by omega) (by omega), ml_n (by omega), Bool.true_and, hW1]; rfl) ?_
          refine mw_steps X 3 (pc' := 47) (lv' := [(2, .int (nI 0)), (1, .int (nI t)), (0, .ref x)]) (st' := [.ref x, .int (nI 0)]) rfl ?_
          refine mw_get X kf_X4_21.fl kc_4 rfl (v := .ref (x + 27)) (fun H h => ⟨_, h.1, rfl⟩) ?_
          refine mw_steps X 2 (pc' := 52) (lv' := [(2, .int (nI 0)), (1, .int (nI t)), (0, .ref x)]) (st' := [.int (nI 2), .int (nI t), .ref (x + 27), .int (nI 0)]) rfl ?_
          refine mw_cV2r X kd_X2_at kv_X2_at kl_X4_198 (ci := 2) rfl rfl (Nat.le_of_ble_eq_true rfl) ⟨Nat.le_of_ble_eq_true rfl, Nat.le_of_ble_eq_true rfl⟩ ⟨Nat.le_of_ble_eq_true rfl, Nat.le_of_ble_eq_true rfl⟩ (fun q z => mx_subB z) (fun H h => ⟨h.o_book, xb_at2 hx h (by rw [hnn]; exact htn)⟩) ?_
          refine mw_top (y := nI 0) hrb ?_
          refine mw_steps X 1 (pc' := 56) (lv' := [(2, .int (nI 0)), (1, .int (nI t)), (0, .ref x)]) (st' := [.int (nI 1), .int (nI 0), .int (nI 0)]) rfl ?_
          refine mw_icmp_ne X 63 rfl rfl (fun c56 => ?_) (fun c56 => absurd c56 (by decide))
          refine mw_steps X 1 (pc' := 64) (lv' := [(2, .int (nI 0)), (1, .int (nI t)), (0, .ref x)]) (st' := [.int (nI 0), .int (nI 0)]) rfl ?_
          refine mw_icmp_eq X 69 rfl rfl (fun c64 => ?_) (fun c64 => absurd (by decide) c64)
          refine mw_steps X 2 (pc' := 2) (lv' := [(1, .int ((nI t) + (nI 1))), (2, .int (nI 0)), (0, .ref x)]) (st' := []) rfl ?_
          refine mw_lvs [0, 2] (lv' := [(1, .int ((nI t) + (nI 1))), (0, .ref x)]) rfl ?_
          refine mw_lveq (lv' := [(1, .int (nI (t + 1))), (0, .ref x)]) (by simp only [nI_add]) ?_
          exact ih (t + 1) ⟨by omega, ml_succ (Q := fun j => W (127 + 100 * mo_n (ρ.2.2.2.1 j) + mo_n (ρ.2.2.2.2.1 j)) = ρ.2.2.2.2.2.1 j) hno (by rw [hre, hrv, hrb, ml_n (show 1 ≤ 100000 by omega), ml_n (show v ≤ 100000 by omega)]; exact hW1)⟩ (by omega)
        · refine mw_steps X 1 (pc' := 14) (lv' := [(1, .int (nI t)), (0, .ref x)]) (st' := [.ref x]) rfl ?_
          refine mw_get X kf_X4_10.fl kc_4 rfl (v := .ref (x + 1)) (fun H h => ⟨_, h.1, rfl⟩) ?_
          refine mw_steps X 1 (pc' := 18) (lv' := [(1, .int (nI t)), (0, .ref x)]) (st' := [.ref x, .ref (x + 1)]) rfl ?_
          refine mw_get X kf_X4_21.fl kc_4 rfl (v := .ref (x + 27)) (fun H h => ⟨_, h.1, rfl⟩) ?_
          refine mw_steps X 2 (pc' := 23) (lv' := [(1, .int (nI t)), (0, .ref x)]) (st' := [.int (nI 0), .int (nI t), .ref (x + 27), .ref (x + 1)]) rfl ?_
          refine mw_cV2r X kd_X2_at kv_X2_at kl_X4_198 (ci := 2) rfl rfl (Nat.le_of_ble_eq_true rfl) ⟨Nat.le_of_ble_eq_true rfl, Nat.le_of_ble_eq_true rfl⟩ ⟨Nat.le_of_ble_eq_true rfl, Nat.le_of_ble_eq_true rfl⟩ (fun q z => mx_subB z) (fun H h => ⟨h.o_book, xb_at0 hx h (by rw [hnn]; exact htn)⟩) ?_
          refine mw_top (y := nI 1) hre ?_
          refine mw_cV1r X kd_X3_endOf kv_X3_endOf kl_X4_100 (ci := 3) rfl rfl (Nat.le_of_ble_eq_true rfl) ⟨Nat.le_of_ble_eq_true rfl, Nat.le_of_ble_eq_true rfl⟩ ⟨Nat.le_of_ble_eq_true rfl, Nat.le_of_ble_eq_true rfl⟩ (fun q z => mx_sub ((fun _ z => z) q z)) (fun H h => ⟨⟨_, h.2.1.1⟩, h.lift0 (fun _ z => z) (have h := h.2.1; zw_endOf1 hb h)⟩) ?_
          refine mw_get X kf_X4_107 kc_0 rfl (v := .ref (x + 1 + 21)) (fun H h => ⟨_, h.2.1.2.2.2.2.2.2.2.2.2.2.2.1, rfl⟩) ?_
          refine mw_steps X 1 (pc' := 33) (lv' := [(1, .int (nI t)), (0, .ref x)]) (st' := [.ref x, .ref (x + 1 + 21)]) rfl ?_
          refine mw_get X kf_X4_21.fl kc_4 rfl (v := .ref (x + 27)) (fun H h => ⟨_, h.1, rfl⟩) ?_
          refine mw_steps X 2 (pc' := 38) (lv' := [(1, .int (nI t)), (0, .ref x)]) (st' := [.int (nI 1), .int (nI t), .ref (x + 27), .ref (x + 1 + 21)]) rfl ?_
          refine mw_cV2r X kd_X2_at kv_X2_at kl_X4_198 (ci := 2) rfl rfl (Nat.le_of_ble_eq_true rfl) ⟨Nat.le_of_ble_eq_true rfl, Nat.le_of_ble_eq_true rfl⟩ ⟨Nat.le_of_ble_eq_true rfl, Nat.le_of_ble_eq_true rfl⟩ (fun q z => mx_subB z) (fun H h => ⟨h.o_book, xb_at1 hx h (by rw [hnn]; exact htn)⟩) ?_
          refine mw_top (y := nI v) hrv ?_
          refine mw_cV1r X kd_X1_has kv_X1_has kl_X4_135 (ci := 1) rfl rfl (Nat.le_of_ble_eq_true rfl) ⟨Nat.le_of_ble_eq_true rfl, Nat.le_of_ble_eq_true rfl⟩ ⟨Nat.le_of_ble_eq_true rfl, Nat.le_of_ble_eq_true rfl⟩ (fun q z => mx_sub ((ws_sub 21 (by omega)) q z)) (fun H h => ⟨(have h := h.2.1; h.o_words1), h.lift0 (ws_sub 21 (by omega)) (have h := h.2.1; y12_has hb h)⟩) ?_
          refine mw_top (y := nI 1) (by rw [mo_bl_n (show v < 100 by omega) (by omega), ml_n (by omega), Bool.true_and, hW1]; rfl) ?_
          refine mw_steps X 3 (pc' := 47) (lv' := [(2, .int (nI 1)), (1, .int (nI t)), (0, .ref x)]) (st' := [.ref x, .int (nI 1)]) rfl ?_
          refine mw_get X kf_X4_21.fl kc_4 rfl (v := .ref (x + 27)) (fun H h => ⟨_, h.1, rfl⟩) ?_
          refine mw_steps X 2 (pc' := 52) (lv' := [(2, .int (nI 1)), (1, .int (nI t)), (0, .ref x)]) (st' := [.int (nI 2), .int (nI t), .ref (x + 27), .int (nI 1)]) rfl ?_
          refine mw_cV2r X kd_X2_at kv_X2_at kl_X4_198 (ci := 2) rfl rfl (Nat.le_of_ble_eq_true rfl) ⟨Nat.le_of_ble_eq_true rfl, Nat.le_of_ble_eq_true rfl⟩ ⟨Nat.le_of_ble_eq_true rfl, Nat.le_of_ble_eq_true rfl⟩ (fun q z => mx_subB z) (fun H h => ⟨h.o_book, xb_at2 hx h (by rw [hnn]; exact htn)⟩) ?_
          refine mw_top (y := nI 0) hrb ?_
          refine mw_steps X 1 (pc' := 56) (lv' := [(2, .int (nI 1)), (1, .int (nI t)), (0, .ref x)]) (st' := [.int (nI 1), .int (nI 0), .int (nI 1)]) rfl ?_
          refine mw_icmp_ne X 63 rfl rfl (fun c56 => ?_) (fun c56 => absurd c56 (by decide))
          refine mw_steps X 1 (pc' := 64) (lv' := [(2, .int (nI 1)), (1, .int (nI t)), (0, .ref x)]) (st' := [.int (nI 0), .int (nI 1)]) rfl ?_
          refine mw_icmp_eq X 69 rfl rfl (fun c64 => absurd c64 (by decide)) (fun c64 => ?_)
          refine mw_steps X 1 (pc' := 68) (lv' := [(2, .int (nI 1)), (1, .int (nI t)), (0, .ref x)]) (st' := [.int (nI t)]) rfl ?_
          exact mw_iret X rfl rfl (fun H h => ⟨congrArg (fun z => some (Value.int z)) (by unfold mo_ix; rw [ml_wr_is htn hre hrv he hv2 (by rw [hW1, hrb]; decide) hno, if_pos htn]), h⟩)
      · rcases hW01 with hW1 | hW1
        · refine mw_steps X 1 (pc' := 14) (lv' := [(1, .int (nI t)), (0, .ref x)]) (st' := [.ref x]) rfl ?_
          refine mw_get X kf_X4_10.fl kc_4 rfl (v := .ref (x + 1)) (fun H h => ⟨_, h.1, rfl⟩) ?_
          refine mw_steps X 1 (pc' := 18) (lv' := [(1, .int (nI t)), (0, .ref x)]) (st' := [.ref x, .ref (x + 1)]) rfl ?_
          refine mw_get X kf_X4_21.fl kc_4 rfl (v := .ref (x + 27)) (fun H h => ⟨_, h.1, rfl⟩) ?_
          refine mw_steps X 2 (pc' := 23) (lv' := [(1, .int (nI t)), (0, .ref x)]) (st' := [.int (nI 0), .int (nI t), .ref (x + 27), .ref (x + 1)]) rfl ?_
          refine mw_cV2r X kd_X2_at kv_X2_at kl_X4_198 (ci := 2) rfl rfl (Nat.le_of_ble_eq_true rfl) ⟨Nat.le_of_ble_eq_true rfl, Nat.le_of_ble_eq_true rfl⟩ ⟨Nat.le_of_ble_eq_true rfl, Nat.le_of_ble_eq_true rfl⟩ (fun q z => mx_subB z) (fun H h => ⟨h.o_book, xb_at0 hx h (by rw [hnn]; exact htn)⟩) ?_
          refine mw_top (y := nI 1) hre ?_
          refine mw_cV1r X kd_X3_endOf kv_X3_endOf kl_X4_100 (ci := 3) rfl rfl (Nat.le_of_ble_eq_true rfl) ⟨Nat.le_of_ble_eq_true rfl, Nat.le_of_ble_eq_true rfl⟩ ⟨Nat.le_of_ble_eq_true rfl, Nat.le_of_ble_eq_true rfl⟩ (fun q z => mx_sub ((fun _ z => z) q z)) (fun H h => ⟨⟨_, h.2.1.1⟩, h.lift0 (fun _ z => z) (have h := h.2.1; zw_endOf1 hb h)⟩) ?_
          refine mw_get X kf_X4_107 kc_0 rfl (v := .ref (x + 1 + 21)) (fun H h => ⟨_, h.2.1.2.2.2.2.2.2.2.2.2.2.2.1, rfl⟩) ?_
          refine mw_steps X 1 (pc' := 33) (lv' := [(1, .int (nI t)), (0, .ref x)]) (st' := [.ref x, .ref (x + 1 + 21)]) rfl ?_
          refine mw_get X kf_X4_21.fl kc_4 rfl (v := .ref (x + 27)) (fun H h => ⟨_, h.1, rfl⟩) ?_
          refine mw_steps X 2 (pc' := 38) (lv' := [(1, .int (nI t)), (0, .ref x)]) (st' := [.int (nI 1), .int (nI t), .ref (x + 27), .ref (x + 1 + 21)]) rfl ?_
          refine mw_cV2r X kd_X2_at kv_X2_at kl_X4_198 (ci := 2) rfl rfl (Nat.le_of_ble_eq_true rfl) ⟨Nat.le_of_ble_eq_true rfl, Nat.le_of_ble_eq_true rfl⟩ ⟨Nat.le_of_ble_eq_true rfl, Nat.le_of_ble_eq_true rfl⟩ (fun q z => mx_subB z) (fun H h => ⟨h.o_book, xb_at1 hx h (by rw [hnn]; exact htn)⟩) ?_
          refine mw_top (y := nI v) hrv ?_
          refine mw_cV1r X kd_X1_has kv_X1_has kl_X4_135 (ci := 1) rfl rfl (Nat.le_of_ble_eq_true rfl) ⟨Nat.le_of_ble_eq_true rfl, Nat.le_of_ble_eq_true rfl⟩ ⟨Nat.le_of_ble_eq_true rfl, Nat.le_of_ble_eq_true rfl⟩ (fun q z => mx_sub ((ws_sub 21 (by omega)) q z)) (fun H h => ⟨(have h := h.2.1; h.o_words1), h.lift0 (ws_sub 21 (by omega)) (have h := h.2.1; y12_has hb h)⟩) ?_
          refine mw_top (y := nI 0) (by rw [mo_bl_n (show v < 100 by omega) (by omega), ml_n (by omega), Bool.true_and, hW1]; rfl) ?_
          refine mw_steps X 3 (pc' := 47) (lv' := [(2, .int (nI 0)), (1, .int (nI t)), (0, .ref x)]) (st' := [.ref x, .int (nI 0)]) rfl ?_
          refine mw_get X kf_X4_21.fl kc_4 rfl (v := .ref (x + 27)) (fun H h => ⟨_, h.1, rfl⟩) ?_
          refine mw_steps X 2 (pc' := 52) (lv' := [(2, .int (nI 0)), (1, .int (nI t)), (0, .ref x)]) (st' := [.int (nI 2), .int (nI t), .ref (x + 27), .int (nI 0)]) rfl ?_
          refine mw_cV2r X kd_X2_at kv_X2_at kl_X4_198 (ci := 2) rfl rfl (Nat.le_of_ble_eq_true rfl) ⟨Nat.le_of_ble_eq_true rfl, Nat.le_of_ble_eq_true rfl⟩ ⟨Nat.le_of_ble_eq_true rfl, Nat.le_of_ble_eq_true rfl⟩ (fun q z => mx_subB z) (fun H h => ⟨h.o_book, xb_at2 hx h (by rw [hnn]; exact htn)⟩) ?_
          refine mw_top (y := nI 1) hrb ?_
          refine mw_steps X 1 (pc' := 56) (lv' := [(2, .int (nI 0)), (1, .int (nI t)), (0, .ref x)]) (st' := [.int (nI 1), .int (nI 1), .int (nI 0)]) rfl ?_
          refine mw_icmp_ne X 63 rfl rfl (fun c56 => absurd (by decide) c56) (fun c56 => ?_)
          refine mw_steps X 2 (pc' := 64) (lv' := [(2, .int (nI 0)), (1, .int (nI t)), (0, .ref x)]) (st' := [.int (nI 1), .int (nI 0)]) rfl ?_
          refine mw_icmp_eq X 69 rfl rfl (fun c64 => absurd c64 (by decide)) (fun c64 => ?_)
          refine mw_steps X 1 (pc' := 68) (lv' := [(2, .int (nI 0)), (1, .int (nI t)), (0, .ref x)]) (st' := [.int (nI t)]) rfl ?_
          exact mw_iret X rfl rfl (fun H h => ⟨congrArg (fun z => some (Value.int z)) (by unfold mo_ix; rw [ml_wr_is htn hre hrv he hv2 (by rw [hW1, hrb]; decide) hno, if_pos htn]), h⟩)
        · refine mw_steps X 1 (pc' := 14) (lv' := [(1, .int (nI t)), (0, .ref x)]) (st' := [.ref x]) rfl ?_
          refine mw_get X kf_X4_10.fl kc_4 rfl (v := .ref (x + 1)) (fun H h => ⟨_, h.1, rfl⟩) ?_
          refine mw_steps X 1 (pc' := 18) (lv' := [(1, .int (nI t)), (0, .ref x)]) (st' := [.ref x, .ref (x + 1)]) rfl ?_
          refine mw_get X kf_X4_21.fl kc_4 rfl (v := .ref (x + 27)) (fun H h => ⟨_, h.1, rfl⟩) ?_
          refine mw_steps X 2 (pc' := 23) (lv' := [(1, .int (nI t)), (0, .ref x)]) (st' := [.int (nI 0), .int (nI t), .ref (x + 27), .ref (x + 1)]) rfl ?_
          refine mw_cV2r X kd_X2_at kv_X2_at kl_X4_198 (ci := 2) rfl rfl (Nat.le_of_ble_eq_true rfl) ⟨Nat.le_of_ble_eq_true rfl, Nat.le_of_ble_eq_true rfl⟩ ⟨Nat.le_of_ble_eq_true rfl, Nat.le_of_ble_eq_true rfl⟩ (fun q z => mx_subB z) (fun H h => ⟨h.o_book, xb_at0 hx h (by rw [hnn]; exact htn)⟩) ?_
          refine mw_top (y := nI 1) hre ?_
          refine mw_cV1r X kd_X3_endOf kv_X3_endOf kl_X4_100 (ci := 3) rfl rfl (Nat.le_of_ble_eq_true rfl) ⟨Nat.le_of_ble_eq_true rfl, Nat.le_of_ble_eq_true rfl⟩ ⟨Nat.le_of_ble_eq_true rfl, Nat.le_of_ble_eq_true rfl⟩ (fun q z => mx_sub ((fun _ z => z) q z)) (fun H h => ⟨⟨_, h.2.1.1⟩, h.lift0 (fun _ z => z) (have h := h.2.1; zw_endOf1 hb h)⟩) ?_
          refine mw_get X kf_X4_107 kc_0 rfl (v := .ref (x + 1 + 21)) (fun H h => ⟨_, h.2.1.2.2.2.2.2.2.2.2.2.2.2.1, rfl⟩) ?_
          refine mw_steps X 1 (pc' := 33) (lv' := [(1, .int (nI t)), (0, .ref x)]) (st' := [.ref x, .ref (x + 1 + 21)]) rfl ?_
          refine mw_get X kf_X4_21.fl kc_4 rfl (v := .ref (x + 27)) (fun H h => ⟨_, h.1, rfl⟩) ?_
          refine mw_steps X 2 (pc' := 38) (lv' := [(1, .int (nI t)), (0, .ref x)]) (st' := [.int (nI 1), .int (nI t), .ref (x + 27), .ref (x + 1 + 21)]) rfl ?_
          refine mw_cV2r X kd_X2_at kv_X2_at kl_X4_198 (ci := 2) rfl rfl (Nat.le_of_ble_eq_true rfl) ⟨Nat.le_of_ble_eq_true rfl, Nat.le_of_ble_eq_true rfl⟩ ⟨Nat.le_of_ble_eq_true rfl, Nat.le_of_ble_eq_true rfl⟩ (fun q z => mx_subB z) (fun H h => ⟨h.o_book, xb_at1 hx h (by rw [hnn]; exact htn)⟩) ?_
          refine mw_top (y := nI v) hrv ?_
          refine mw_cV1r X kd_X1_has kv_X1_has kl_X4_135 (ci := 1) rfl rfl (Nat.le_of_ble_eq_true rfl) ⟨Nat.le_of_ble_eq_true rfl, Nat.le_of_ble_eq_true rfl⟩ ⟨Nat.le_of_ble_eq_true rfl, Nat.le_of_ble_eq_true rfl⟩ (fun q z => mx_sub ((ws_sub 21 (by omega)) q z)) (fun H h => ⟨(have h := h.2.1; h.o_words1), h.lift0 (ws_sub 21 (by omega)) (have h := h.2.1; y12_has hb h)⟩) ?_
          refine mw_top (y := nI 1) (by rw [mo_bl_n (show v < 100 by omega) (by omega), ml_n (by omega), Bool.true_and, hW1]; rfl) ?_
          refine mw_steps X 3 (pc' := 47) (lv' := [(2, .int (nI 1)), (1, .int (nI t)), (0, .ref x)]) (st' := [.ref x, .int (nI 1)]) rfl ?_
          refine mw_get X kf_X4_21.fl kc_4 rfl (v := .ref (x + 27)) (fun H h => ⟨_, h.1, rfl⟩) ?_
          refine mw_steps X 2 (pc' := 52) (lv' := [(2, .int (nI 1)), (1, .int (nI t)), (0, .ref x)]) (st' := [.int (nI 2), .int (nI t), .ref (x + 27), .int (nI 1)]) rfl ?_
          refine mw_cV2r X kd_X2_at kv_X2_at kl_X4_198 (ci := 2) rfl rfl (Nat.le_of_ble_eq_true rfl) ⟨Nat.le_of_ble_eq_true rfl, Nat.le_of_ble_eq_true rfl⟩ ⟨Nat.le_of_ble_eq_true rfl, Nat.le_of_ble_eq_true rfl⟩ (fun q z => mx_subB z) (fun H h => ⟨h.o_book, xb_at2 hx h (by rw [hnn]; exact htn)⟩) ?_
          refine mw_top (y := nI 1) hrb ?_
          refine mw_steps X 1 (pc' := 56) (lv' := [(2, .int (nI 1)), (1, .int (nI t)), (0, .ref x)]) (st' := [.int (nI 1), .int (nI 1), .int (nI 1)]) rfl ?_
          refine mw_icmp_ne X 63 rfl rfl (fun c56 => absurd (by decide) c56) (fun c56 => ?_)
          refine mw_steps X 2 (pc' := 64) (lv' := [(2, .int (nI 1)), (1, .int (nI t)), (0, .ref x)]) (st' := [.int (nI 1), .int (nI 1)]) rfl ?_
          refine mw_icmp_eq X 69 rfl rfl (fun c64 => ?_) (fun c64 => absurd (by decide) c64)
          refine mw_steps X 2 (pc' := 2) (lv' := [(1, .int ((nI t) + (nI 1))), (2, .int (nI 1)), (0, .ref x)]) (st' := []) rfl ?_
          refine mw_lvs [0, 2] (lv' := [(1, .int ((nI t) + (nI 1))), (0, .ref x)]) rfl ?_
          refine mw_lveq (lv' := [(1, .int (nI (t + 1))), (0, .ref x)]) (by simp only [nI_add]) ?_
          exact ih (t + 1) ⟨by omega, ml_succ (Q := fun j => W (127 + 100 * mo_n (ρ.2.2.2.1 j) + mo_n (ρ.2.2.2.2.1 j)) = ρ.2.2.2.2.2.1 j) hno (by rw [hre, hrv, hrb, ml_n (show 1 ≤ 100000 by omega), ml_n (show v ≤ 100000 by omega)]; exact hW1)⟩ (by omega)
set_option maxHeartbeats 4000000 in
set_option maxRecDepth 20000 in
theorem zx_told0 {l : Launch} {Γ : mw_C} {x : Nat} (hx : Γ.2.2.2 ≤ x) {W : Nat → Int32} {ρ : md_R} {H : Heap} {c : Nat} (hH : mx_I Γ x W ρ H) (hv : iv c W) (hk : iv_k ρ) : mw_Cr l Γ mX4_told 5 0 0 (mx_A x) [.ref x, .int (nI 0)] H (some (.int (an_told W ρ 0))) (mx_I Γ x W ρ) := by
  have hb : Γ.2.2.2 ≤ x + 1 := by omega
  refine mw_ofG (P := pX4_told) (by decide) (mx_As hx) oX4_told (Nat.le_of_ble_eq_true rfl) ?_
  intro pg e0 sg mg below meth cd X hs
  refine mw_pre (I' := mx_I Γ x W ρ) (fun H1 h1 => by rw [h1]; exact hH) ?_
  refine mw_steps X 1 (pc' := 1) (lv' := [(0, .ref x), (1, .int (nI 0))]) (st' := [.int (nI 0)]) rfl ?_
  refine mw_tsIn X 0 rfl (by decide) 96 rfl (by decide) rfl rfl ?_
  refine mw_steps X 1 (pc' := 97) (lv' := [(0, .ref x), (1, .int (nI 0))]) (st' := [.ref x]) rfl ?_
  refine mw_get X kf_X4_10.fl kc_4 rfl (v := .ref (x + 1)) (fun H h => ⟨_, h.1, rfl⟩) ?_
  refine mw_get X kf_X4_29 kc_3 rfl (v := .int (W (0))) (fun H h => ⟨_, h.2.1.1, rfl⟩) ?_
  exact mw_iret X rfl rfl (fun H h => ⟨rfl, h⟩)
set_option maxHeartbeats 4000000 in
set_option maxRecDepth 20000 in
theorem zx_told1 {l : Launch} {Γ : mw_C} {x : Nat} (hx : Γ.2.2.2 ≤ x) {W : Nat → Int32} {ρ : md_R} {H : Heap} {c : Nat} (hH : mx_I Γ x W ρ H) (hv : iv c W) (hk : iv_k ρ) : mw_Cr l Γ mX4_told 5 0 0 (mx_A x) [.ref x, .int (nI 1)] H (some (.int (an_told W ρ 1))) (mx_I Γ x W ρ) := by
  have hb : Γ.2.2.2 ≤ x + 1 := by omega
  refine mw_ofG (P := pX4_told) (by decide) (mx_As hx) oX4_told (Nat.le_of_ble_eq_true rfl) ?_
  intro pg e0 sg mg below meth cd X hs
  refine mw_pre (I' := mx_I Γ x W ρ) (fun H1 h1 => by rw [h1]; exact hH) ?_
  refine mw_steps X 1 (pc' := 1) (lv' := [(0, .ref x), (1, .int (nI 1))]) (st' := [.int (nI 1)]) rfl ?_
  refine mw_tsIn X 1 rfl (by decide) 104 rfl (by decide) rfl rfl ?_
  refine mw_steps X 1 (pc' := 105) (lv' := [(0, .ref x), (1, .int (nI 1))]) (st' := [.ref x]) rfl ?_
  refine mw_get X kf_X4_10.fl kc_4 rfl (v := .ref (x + 1)) (fun H h => ⟨_, h.1, rfl⟩) ?_
  refine mw_get X kf_X4_33 kc_3 rfl (v := .ref (x + 1 + 1)) (fun H h => ⟨_, h.2.1.1, rfl⟩) ?_
  refine mw_cV0r X kd_X2_size kv_X2_size kl_X4_36 (ci := 2) rfl rfl (Nat.le_of_ble_eq_true rfl) ⟨Nat.le_of_ble_eq_true rfl, Nat.le_of_ble_eq_true rfl⟩ ⟨Nat.le_of_ble_eq_true rfl, Nat.le_of_ble_eq_true rfl⟩ (fun q z => mx_sub ((ws_sub 1 (by omega)) q z)) (fun H h => ⟨(have h := h.2.1; h.o_road), h.lift0 (ws_sub 1 (by omega)) (have h := h.2.1; y1_size hb h)⟩) ?_
  exact mw_iret X rfl rfl (fun H h => ⟨congrArg (fun z => some (Value.int z)) (show nI (mo_n (W 11)) = an_told W ρ 1 from (ml_i11 hv.1).symm), h⟩)
set_option maxHeartbeats 4000000 in
set_option maxRecDepth 20000 in
theorem zx_told2 {l : Launch} {Γ : mw_C} {x : Nat} (hx : Γ.2.2.2 ≤ x) {W : Nat → Int32} {ρ : md_R} {H : Heap} {c : Nat} (hH : mx_I Γ x W ρ H) (hv : iv c W) (hk : iv_k ρ) : mw_Cr l Γ mX4_told 5 0 0 (mx_A x) [.ref x, .int (nI 2)] H (some (.int (an_told W ρ 2))) (mx_I Γ x W ρ) := by
  have hb : Γ.2.2.2 ≤ x + 1 := by omega
  refine mw_ofG (P := pX4_told) (by decide) (mx_As hx) oX4_told (Nat.le_of_ble_eq_true rfl) ?_
  intro pg e0 sg mg below meth cd X hs
  refine mw_pre (I' := mx_I Γ x W ρ) (fun H1 h1 => by rw [h1]; exact hH) ?_
  refine mw_steps X 1 (pc' := 1) (lv' := [(0, .ref x), (1, .int (nI 2))]) (st' := [.int (nI 2)]) rfl ?_
  refine mw_tsIn X 2 rfl (by decide) 115 rfl (by decide) rfl rfl ?_
  refine mw_steps X 1 (pc' := 116) (lv' := [(0, .ref x), (1, .int (nI 2))]) (st' := [.ref x]) rfl ?_
  refine mw_get X kf_X4_10.fl kc_4 rfl (v := .ref (x + 1)) (fun H h => ⟨_, h.1, rfl⟩) ?_
  refine mw_get X kf_X4_40 kc_3 rfl (v := .ref (x + 1 + 3)) (fun H h => ⟨_, h.2.1.1, rfl⟩) ?_
  refine mw_cV0r X kd_X2_size kv_X2_size kl_X4_36 (ci := 2) rfl rfl (Nat.le_of_ble_eq_true rfl) ⟨Nat.le_of_ble_eq_true rfl, Nat.le_of_ble_eq_true rfl⟩ ⟨Nat.le_of_ble_eq_true rfl, Nat.le_of_ble_eq_true rfl⟩ (fun q z => mx_sub ((ws_sub 3 (by omega)) q z)) (fun H h => ⟨(have h := h.2.1; h.o_waiting), h.lift0 (ws_sub 3 (by omega)) (have h := h.2.1; y2_size hb h)⟩) ?_
  exact mw_iret X rfl rfl (fun H h => ⟨congrArg (fun z => some (Value.int z)) (show nI (mo_n (W 12)) = an_told W ρ 2 from (ml_i12 hv.1).symm), h⟩)
set_option maxHeartbeats 4000000 in
set_option maxRecDepth 20000 in
theorem zx_told3 {l : Launch} {Γ : mw_C} {x : Nat} (hx : Γ.2.2.2 ≤ x) {W : Nat → Int32} {ρ : md_R} {H : Heap} {c : Nat} (hH : mx_I Γ x W ρ H) (hv : iv c W) (hk : iv_k ρ) : mw_Cr l Γ mX4_told 5 0 0 (mx_A x) [.ref x, .int (nI 3)] H (some (.int (an_told W ρ 3))) (mx_I Γ x W ρ) := by
  have hb : Γ.2.2.2 ≤ x + 1 := by omega
  refine mw_ofG (P := pX4_told) (by decide) (mx_As hx) oX4_told (Nat.le_of_ble_eq_true rfl) ?_
  intro pg e0 sg mg below meth cd X hs
  refine mw_pre (I' := mx_I Γ x W ρ) (fun H1 h1 => by rw [h1]; exact hH) ?_
  refine mw_steps X 1 (pc' := 1) (lv' := [(0, .ref x), (1, .int (nI 3))]) (st' := [.int (nI 3)]) rfl ?_
  refine mw_tsIn X 3 rfl (by decide) 126 rfl (by decide) rfl rfl ?_
  refine mw_steps X 1 (pc' := 127) (lv' := [(0, .ref x), (1, .int (nI 3))]) (st' := [.ref x]) rfl ?_
  refine mw_get X kf_X4_10.fl kc_4 rfl (v := .ref (x + 1)) (fun H h => ⟨_, h.1, rfl⟩) ?_
  refine mw_get X kf_X4_43 kc_3 rfl (v := .ref (x + 1 + 5)) (fun H h => ⟨_, h.2.1.1, rfl⟩) ?_
  refine mw_cV0r X kd_X2_size kv_X2_size kl_X4_36 (ci := 2) rfl rfl (Nat.le_of_ble_eq_true rfl) ⟨Nat.le_of_ble_eq_true rfl, Nat.le_of_ble_eq_true rfl⟩ ⟨Nat.le_of_ble_eq_true rfl, Nat.le_of_ble_eq_true rfl⟩ (fun q z => mx_sub ((ws_sub 5 (by omega)) q z)) (fun H h => ⟨(have h := h.2.1; h.o_asked), h.lift0 (ws_sub 5 (by omega)) (have h := h.2.1; y3_size hb h)⟩) ?_
  exact mw_iret X rfl rfl (fun H h => ⟨congrArg (fun z => some (Value.int z)) (show nI (mo_n (W 13)) = an_told W ρ 3 from (ml_i13 hv.1).symm), h⟩)
set_option maxHeartbeats 4000000 in
set_option maxRecDepth 20000 in
theorem zx_told4 {l : Launch} {Γ : mw_C} {x : Nat} (hx : Γ.2.2.2 ≤ x) {W : Nat → Int32} {ρ : md_R} {H : Heap} {c : Nat} (hH : mx_I Γ x W ρ H) (hv : iv c W) (hk : iv_k ρ) : mw_Cr l Γ mX4_told 5 0 0 (mx_A x) [.ref x, .int (nI 4)] H (some (.int (an_told W ρ 4))) (mx_I Γ x W ρ) := by
  have hb : Γ.2.2.2 ≤ x + 1 := by omega
  refine mw_ofG (P := pX4_told) (by decide) (mx_As hx) oX4_told (Nat.le_of_ble_eq_true rfl) ?_
  intro pg e0 sg mg below meth cd X hs
  refine mw_pre (I' := mx_I Γ x W ρ) (fun H1 h1 => by rw [h1]; exact hH) ?_
  refine mw_steps X 1 (pc' := 1) (lv' := [(0, .ref x), (1, .int (nI 4))]) (st' := [.int (nI 4)]) rfl ?_
  refine mw_tsIn X 4 rfl (by decide) 137 rfl (by decide) rfl rfl ?_
  refine mw_steps X 1 (pc' := 138) (lv' := [(0, .ref x), (1, .int (nI 4))]) (st' := [.ref x]) rfl ?_
  refine mw_get X kf_X4_10.fl kc_4 rfl (v := .ref (x + 1)) (fun H h => ⟨_, h.1, rfl⟩) ?_
  refine mw_get X kf_X4_46 kc_3 rfl (v := .ref (x + 1 + 15)) (fun H h => ⟨_, h.2.1.1, rfl⟩) ?_
  refine mw_get X kf_X4_50 kc_0 rfl (v := .int (W (2))) (fun H h => ⟨_, h.2.1.2.2.2.2.2.2.2.2.1, congrArg (fun z => some (Value.int z)) rfl⟩) ?_
  exact mw_iret X rfl rfl (fun H h => ⟨rfl, h⟩)
set_option maxHeartbeats 4000000 in
set_option maxRecDepth 20000 in
theorem zx_told5 {l : Launch} {Γ : mw_C} {x : Nat} (hx : Γ.2.2.2 ≤ x) {W : Nat → Int32} {ρ : md_R} {H : Heap} {c : Nat} (hH : mx_I Γ x W ρ H) (hv : iv c W) (hk : iv_k ρ) : mw_Cr l Γ mX4_told 5 0 0 (mx_A x) [.ref x, .int (nI 5)] H (some (.int (an_told W ρ 5))) (mx_I Γ x W ρ) := by
  have hb : Γ.2.2.2 ≤ x + 1 := by omega
  refine mw_ofG (P := pX4_told) (by decide) (mx_As hx) oX4_told (Nat.le_of_ble_eq_true rfl) ?_
  intro pg e0 sg mg below meth cd X hs
  refine mw_pre (I' := mx_I Γ x W ρ) (fun H1 h1 => by rw [h1]; exact hH) ?_
  refine mw_steps X 1 (pc' := 1) (lv' := [(0, .ref x), (1, .int (nI 5))]) (st' := [.int (nI 5)]) rfl ?_
  refine mw_tsIn X 5 rfl (by decide) 148 rfl (by decide) rfl rfl ?_
  refine mw_steps X 1 (pc' := 149) (lv' := [(0, .ref x), (1, .int (nI 5))]) (st' := [.ref x]) rfl ?_
  refine mw_get X kf_X4_10.fl kc_4 rfl (v := .ref (x + 1)) (fun H h => ⟨_, h.1, rfl⟩) ?_
  refine mw_get X kf_X4_55 kc_3 rfl (v := .ref (x + 1 + 20)) (fun H h => ⟨_, h.2.1.1, rfl⟩) ?_
  refine mw_get X kf_X4_50 kc_0 rfl (v := .int (W (3))) (fun H h => ⟨_, h.2.1.2.2.2.2.2.2.2.2.2.2.2.1, congrArg (fun z => some (Value.int z)) rfl⟩) ?_
  exact mw_iret X rfl rfl (fun H h => ⟨rfl, h⟩)
set_option maxHeartbeats 4000000 in
set_option maxRecDepth 20000 in
theorem zx_told6 {l : Launch} {Γ : mw_C} {x : Nat} (hx : Γ.2.2.2 ≤ x) {W : Nat → Int32} {ρ : md_R} {H : Heap} {c : Nat} (hH : mx_I Γ x W ρ H) (hv : iv c W) (hk : iv_k ρ) : mw_Cr l Γ mX4_told 5 0 0 (mx_A x) [.ref x, .int (nI 6)] H (some (.int (an_told W ρ 6))) (mx_I Γ x W ρ) := by
  have hb : Γ.2.2.2 ≤ x + 1 := by omega
  refine mw_ofG (P := pX4_told) (by decide) (mx_As hx) oX4_told (Nat.le_of_ble_eq_true rfl) ?_
  intro pg e0 sg mg below meth cd X hs
  refine mw_pre (I' := mx_I Γ x W ρ) (fun H1 h1 => by rw [h1]; exact hH) ?_
  refine mw_steps X 1 (pc' := 1) (lv' := [(0, .ref x), (1, .int (nI 6))]) (st' := [.int (nI 6)]) rfl ?_
  refine mw_tsIn X 6 rfl (by decide) 159 rfl (by decide) rfl rfl ?_
  refine mw_steps X 1 (pc' := 160) (lv' := [(0, .ref x), (1, .int (nI 6))]) (st' := [.ref x]) rfl ?_
  refine mw_get X kf_X4_10.fl kc_4 rfl (v := .ref (x + 1)) (fun H h => ⟨_, h.1, rfl⟩) ?_
  refine mw_get X kf_X4_46 kc_3 rfl (v := .ref (x + 1 + 15)) (fun H h => ⟨_, h.2.1.1, rfl⟩) ?_
  refine mw_get X kf_X4_58 kc_0 rfl (v := .int (W (4))) (fun H h => ⟨_, h.2.1.2.2.2.2.2.2.2.2.1, congrArg (fun z => some (Value.int z)) rfl⟩) ?_
  exact mw_iret X rfl rfl (fun H h => ⟨rfl, h⟩)
set_option maxHeartbeats 4000000 in
set_option maxRecDepth 20000 in
theorem zx_told7 {l : Launch} {Γ : mw_C} {x : Nat} (hx : Γ.2.2.2 ≤ x) {W : Nat → Int32} {ρ : md_R} {H : Heap} {c : Nat} (hH : mx_I Γ x W ρ H) (hv : iv c W) (hk : iv_k ρ) : mw_Cr l Γ mX4_told 5 0 0 (mx_A x) [.ref x, .int (nI 7)] H (some (.int (an_told W ρ 7))) (mx_I Γ x W ρ) := by
  have hb : Γ.2.2.2 ≤ x + 1 := by omega
  refine mw_ofG (P := pX4_told) (by decide) (mx_As hx) oX4_told (Nat.le_of_ble_eq_true rfl) ?_
  intro pg e0 sg mg below meth cd X hs
  refine mw_pre (I' := mx_I Γ x W ρ) (fun H1 h1 => by rw [h1]; exact hH) ?_
  refine mw_steps X 1 (pc' := 1) (lv' := [(0, .ref x), (1, .int (nI 7))]) (st' := [.int (nI 7)]) rfl ?_
  refine mw_tsIn X 7 rfl (by decide) 170 rfl (by decide) rfl rfl ?_
  refine mw_steps X 1 (pc' := 171) (lv' := [(0, .ref x), (1, .int (nI 7))]) (st' := [.ref x]) rfl ?_
  refine mw_get X kf_X4_10.fl kc_4 rfl (v := .ref (x + 1)) (fun H h => ⟨_, h.1, rfl⟩) ?_
  refine mw_get X kf_X4_55 kc_3 rfl (v := .ref (x + 1 + 20)) (fun H h => ⟨_, h.2.1.1, rfl⟩) ?_
  refine mw_get X kf_X4_58 kc_0 rfl (v := .int (W (5))) (fun H h => ⟨_, h.2.1.2.2.2.2.2.2.2.2.2.2.2.1, congrArg (fun z => some (Value.int z)) rfl⟩) ?_
  exact mw_iret X rfl rfl (fun H h => ⟨rfl, h⟩)
set_option maxHeartbeats 4000000 in
set_option maxRecDepth 20000 in
theorem zx_told8 {l : Launch} {Γ : mw_C} {x : Nat} (hx : Γ.2.2.2 ≤ x) {W : Nat → Int32} {ρ : md_R} {H : Heap} {c : Nat} (hH : mx_I Γ x W ρ H) (hv : iv c W) (hk : iv_k ρ) : mw_Cr l Γ mX4_told 5 0 0 (mx_A x) [.ref x, .int (nI 8)] H (some (.int (an_told W ρ 8))) (mx_I Γ x W ρ) := by
  have hb : Γ.2.2.2 ≤ x + 1 := by omega
  refine mw_ofG (P := pX4_told) (by decide) (mx_As hx) oX4_told (Nat.le_of_ble_eq_true rfl) ?_
  intro pg e0 sg mg below meth cd X hs
  refine mw_pre (I' := mx_I Γ x W ρ) (fun H1 h1 => by rw [h1]; exact hH) ?_
  refine mw_steps X 1 (pc' := 1) (lv' := [(0, .ref x), (1, .int (nI 8))]) (st' := [.int (nI 8)]) rfl ?_
  refine mw_tsIn X 8 rfl (by decide) 181 rfl (by decide) rfl rfl ?_
  refine mw_steps X 1 (pc' := 182) (lv' := [(0, .ref x), (1, .int (nI 8))]) (st' := [.ref x]) rfl ?_
  refine mw_get X kf_X4_10.fl kc_4 rfl (v := .ref (x + 1)) (fun H h => ⟨_, h.1, rfl⟩) ?_
  refine mw_get X kf_X4_61 kc_3 rfl (v := .int (W (1))) (fun H h => ⟨_, h.2.1.1, rfl⟩) ?_
  exact mw_iret X rfl rfl (fun H h => ⟨rfl, h⟩)
set_option maxHeartbeats 4000000 in
set_option maxRecDepth 20000 in
theorem zx_told9 {l : Launch} {Γ : mw_C} {x : Nat} (hx : Γ.2.2.2 ≤ x) {W : Nat → Int32} {ρ : md_R} {H : Heap} {c : Nat} (hH : mx_I Γ x W ρ H) (hv : iv c W) (hk : iv_k ρ) : mw_Cr l Γ mX4_told 5 0 0 (mx_A x) [.ref x, .int (nI 9)] H (some (.int (an_told W ρ 9))) (mx_I Γ x W ρ) := by
  have hb : Γ.2.2.2 ≤ x + 1 := by omega
  refine mw_ofG (P := pX4_told) (by decide) (mx_As hx) oX4_told (Nat.le_of_ble_eq_true rfl) ?_
  intro pg e0 sg mg below meth cd X hs
  refine mw_pre (I' := mx_I Γ x W ρ) (fun H1 h1 => by rw [h1]; exact hH) ?_
  refine mw_steps X 1 (pc' := 1) (lv' := [(0, .ref x), (1, .int (nI 9))]) (st' := [.int (nI 9)]) rfl ?_
  refine mw_tsIn X 9 rfl (by decide) 189 rfl (by decide) rfl rfl ?_
  refine mw_steps X 1 (pc' := 190) (lv' := [(0, .ref x), (1, .int (nI 9))]) (st' := [.ref x]) rfl ?_
  refine mw_get X kf_X4_10.fl kc_4 rfl (v := .ref (x + 1)) (fun H h => ⟨_, h.1, rfl⟩) ?_
  refine mw_get X kf_X4_64 kc_3 rfl (v := .ref (x + 1 + 9)) (fun H h => ⟨_, h.2.1.1, rfl⟩) ?_
  refine mw_cV0r X kd_X1_size kv_X1_size kl_X4_68 (ci := 1) rfl rfl (Nat.le_of_ble_eq_true rfl) ⟨Nat.le_of_ble_eq_true rfl, Nat.le_of_ble_eq_true rfl⟩ ⟨Nat.le_of_ble_eq_true rfl, Nat.le_of_ble_eq_true rfl⟩ (fun q z => mx_sub ((ws_sub 9 (by omega)) q z)) (fun H h => ⟨(have h := h.2.1; h.o_live), h.lift0 (ws_sub 9 (by omega)) (have h := h.2.1; y5_size hb h)⟩) ?_
  exact mw_iret X rfl rfl (fun H h => ⟨rfl, h⟩)
set_option maxHeartbeats 4000000 in
set_option maxRecDepth 20000 in
theorem zx_told10 {l : Launch} {Γ : mw_C} {x : Nat} (hx : Γ.2.2.2 ≤ x) {W : Nat → Int32} {ρ : md_R} {H : Heap} {c : Nat} (hH : mx_I Γ x W ρ H) (hv : iv c W) (hk : iv_k ρ) : mw_Cr l Γ mX4_told 5 0 0 (mx_A x) [.ref x, .int (nI 10)] H (some (.int (an_told W ρ 10))) (mx_I Γ x W ρ) := by
  have hb : Γ.2.2.2 ≤ x + 1 := by omega
  refine mw_ofG (P := pX4_told) (by decide) (mx_As hx) oX4_told (Nat.le_of_ble_eq_true rfl) ?_
  intro pg e0 sg mg below meth cd X hs
  refine mw_pre (I' := mx_I Γ x W ρ) (fun H1 h1 => by rw [h1]; exact hH) ?_
  refine mw_steps X 1 (pc' := 1) (lv' := [(0, .ref x), (1, .int (nI 10))]) (st' := [.int (nI 10)]) rfl ?_
  refine mw_tsIn X 10 rfl (by decide) 200 rfl (by decide) rfl rfl ?_
  refine mw_steps X 1 (pc' := 201) (lv' := [(0, .ref x), (1, .int (nI 10))]) (st' := [.ref x]) rfl ?_
  refine mw_get X kf_X4_10.fl kc_4 rfl (v := .ref (x + 1)) (fun H h => ⟨_, h.1, rfl⟩) ?_
  refine mw_get X kf_X4_71 kc_3 rfl (v := .ref (x + 1 + 11)) (fun H h => ⟨_, h.2.1.1, rfl⟩) ?_
  refine mw_cV0r X kd_X1_size kv_X1_size kl_X4_68 (ci := 1) rfl rfl (Nat.le_of_ble_eq_true rfl) ⟨Nat.le_of_ble_eq_true rfl, Nat.le_of_ble_eq_true rfl⟩ ⟨Nat.le_of_ble_eq_true rfl, Nat.le_of_ble_eq_true rfl⟩ (fun q z => mx_sub ((ws_sub 11 (by omega)) q z)) (fun H h => ⟨(have h := h.2.1; h.o_spare), h.lift0 (ws_sub 11 (by omega)) (have h := h.2.1; y6_size hb h)⟩) ?_
  exact mw_iret X rfl rfl (fun H h => ⟨rfl, h⟩)
set_option maxHeartbeats 4000000 in
set_option maxRecDepth 20000 in
theorem zx_told11 {l : Launch} {Γ : mw_C} {x : Nat} (hx : Γ.2.2.2 ≤ x) {W : Nat → Int32} {ρ : md_R} {H : Heap} {c : Nat} (hH : mx_I Γ x W ρ H) (hv : iv c W) (hk : iv_k ρ) : mw_Cr l Γ mX4_told 5 0 0 (mx_A x) [.ref x, .int (nI 11)] H (some (.int (an_told W ρ 11))) (mx_I Γ x W ρ) := by
  have hb : Γ.2.2.2 ≤ x + 1 := by omega
  refine mw_ofG (P := pX4_told) (by decide) (mx_As hx) oX4_told (Nat.le_of_ble_eq_true rfl) ?_
  intro pg e0 sg mg below meth cd X hs
  refine mw_pre (I' := mx_I Γ x W ρ) (fun H1 h1 => by rw [h1]; exact hH) ?_
  refine mw_steps X 1 (pc' := 1) (lv' := [(0, .ref x), (1, .int (nI 11))]) (st' := [.int (nI 11)]) rfl ?_
  refine mw_tsIn X 11 rfl (by decide) 211 rfl (by decide) rfl rfl ?_
  refine mw_steps X 1 (pc' := 212) (lv' := [(0, .ref x), (1, .int (nI 11))]) (st' := [.ref x]) rfl ?_
  refine mw_get X kf_X4_10.fl kc_4 rfl (v := .ref (x + 1)) (fun H h => ⟨_, h.1, rfl⟩) ?_
  refine mw_get X kf_X4_74 kc_3 rfl (v := .int (W (6))) (fun H h => ⟨_, h.2.1.1, rfl⟩) ?_
  exact mw_iret X rfl rfl (fun H h => ⟨rfl, h⟩)
set_option maxHeartbeats 4000000 in
set_option maxRecDepth 20000 in
theorem zx_told12 {l : Launch} {Γ : mw_C} {x : Nat} (hx : Γ.2.2.2 ≤ x) {W : Nat → Int32} {ρ : md_R} {H : Heap} {c : Nat} (hH : mx_I Γ x W ρ H) (hv : iv c W) (hk : iv_k ρ) : mw_Cr l Γ mX4_told 5 0 0 (mx_A x) [.ref x, .int (nI 12)] H (some (.int (an_told W ρ 12))) (mx_I Γ x W ρ) := by
  have hb : Γ.2.2.2 ≤ x + 1 := by omega
  refine mw_ofG (P := pX4_told) (by decide) (mx_As hx) oX4_told (Nat.le_of_ble_eq_true rfl) ?_
  intro pg e0 sg mg below meth cd X hs
  refine mw_pre (I' := mx_I Γ x W ρ) (fun H1 h1 => by rw [h1]; exact hH) ?_
  refine mw_steps X 1 (pc' := 1) (lv' := [(0, .ref x), (1, .int (nI 12))]) (st' := [.int (nI 12)]) rfl ?_
  refine mw_tsIn X 12 rfl (by decide) 219 rfl (by decide) rfl rfl ?_
  refine mw_steps X 1 (pc' := 220) (lv' := [(0, .ref x), (1, .int (nI 12))]) (st' := [.ref x]) rfl ?_
  refine mw_get X kf_X4_10.fl kc_4 rfl (v := .ref (x + 1)) (fun H h => ⟨_, h.1, rfl⟩) ?_
  refine mw_steps X 1 (pc' := 224) (lv' := [(0, .ref x), (1, .int (nI 12))]) (st' := [.int (nI 1), .ref (x + 1)]) rfl ?_
  refine mw_cV1r X kd_X3_droppedBy kv_X3_droppedBy kl_X4_77 (ci := 3) rfl rfl (Nat.le_of_ble_eq_true rfl) ⟨Nat.le_of_ble_eq_true rfl, Nat.le_of_ble_eq_true rfl⟩ ⟨Nat.le_of_ble_eq_true rfl, Nat.le_of_ble_eq_true rfl⟩ (fun q z => mx_sub ((fun _ z => z) q z)) (fun H h => ⟨⟨_, h.2.1.1⟩, h.lift0 (fun _ z => z) (have h := h.2.1; zw_dropped hb h (j := 1) (by omega))⟩) ?_
  exact mw_iret X rfl rfl (fun H h => ⟨rfl, h⟩)
set_option maxHeartbeats 4000000 in
set_option maxRecDepth 20000 in
theorem zx_told13 {l : Launch} {Γ : mw_C} {x : Nat} (hx : Γ.2.2.2 ≤ x) {W : Nat → Int32} {ρ : md_R} {H : Heap} {c : Nat} (hH : mx_I Γ x W ρ H) (hv : iv c W) (hk : iv_k ρ) : mw_Cr l Γ mX4_told 5 0 0 (mx_A x) [.ref x, .int (nI 13)] H (some (.int (an_told W ρ 13))) (mx_I Γ x W ρ) := by
  have hb : Γ.2.2.2 ≤ x + 1 := by omega
  refine mw_ofG (P := pX4_told) (by decide) (mx_As hx) oX4_told (Nat.le_of_ble_eq_true rfl) ?_
  intro pg e0 sg mg below meth cd X hs
  refine mw_pre (I' := mx_I Γ x W ρ) (fun H1 h1 => by rw [h1]; exact hH) ?_
  refine mw_steps X 1 (pc' := 1) (lv' := [(0, .ref x), (1, .int (nI 13))]) (st' := [.int (nI 13)]) rfl ?_
  refine mw_tsIn X 13 rfl (by decide) 228 rfl (by decide) rfl rfl ?_
  refine mw_steps X 1 (pc' := 229) (lv' := [(0, .ref x), (1, .int (nI 13))]) (st' := [.ref x]) rfl ?_
  refine mw_get X kf_X4_10.fl kc_4 rfl (v := .ref (x + 1)) (fun H h => ⟨_, h.1, rfl⟩) ?_
  refine mw_steps X 1 (pc' := 233) (lv' := [(0, .ref x), (1, .int (nI 13))]) (st' := [.int (nI 2), .ref (x + 1)]) rfl ?_
  refine mw_cV1r X kd_X3_droppedBy kv_X3_droppedBy kl_X4_77 (ci := 3) rfl rfl (Nat.le_of_ble_eq_true rfl) ⟨Nat.le_of_ble_eq_true rfl, Nat.le_of_ble_eq_true rfl⟩ ⟨Nat.le_of_ble_eq_true rfl, Nat.le_of_ble_eq_true rfl⟩ (fun q z => mx_sub ((fun _ z => z) q z)) (fun H h => ⟨⟨_, h.2.1.1⟩, h.lift0 (fun _ z => z) (have h := h.2.1; zw_dropped hb h (j := 2) (by omega))⟩) ?_
  exact mw_iret X rfl rfl (fun H h => ⟨rfl, h⟩)
set_option maxHeartbeats 4000000 in
set_option maxRecDepth 20000 in
theorem zx_told14 {l : Launch} {Γ : mw_C} {x : Nat} (hx : Γ.2.2.2 ≤ x) {W : Nat → Int32} {ρ : md_R} {H : Heap} {c : Nat} (hH : mx_I Γ x W ρ H) (hv : iv c W) (hk : iv_k ρ) : mw_Cr l Γ mX4_told 5 0 0 (mx_A x) [.ref x, .int (nI 14)] H (some (.int (an_told W ρ 14))) (mx_I Γ x W ρ) := by
  have hb : Γ.2.2.2 ≤ x + 1 := by omega
  refine mw_ofG (P := pX4_told) (by decide) (mx_As hx) oX4_told (Nat.le_of_ble_eq_true rfl) ?_
  intro pg e0 sg mg below meth cd X hs
  refine mw_pre (I' := mx_I Γ x W ρ) (fun H1 h1 => by rw [h1]; exact hH) ?_
  refine mw_steps X 1 (pc' := 1) (lv' := [(0, .ref x), (1, .int (nI 14))]) (st' := [.int (nI 14)]) rfl ?_
  refine mw_tsIn X 14 rfl (by decide) 237 rfl (by decide) rfl rfl ?_
  refine mw_steps X 1 (pc' := 238) (lv' := [(0, .ref x), (1, .int (nI 14))]) (st' := [.ref x]) rfl ?_
  refine mw_get X kf_X4_10.fl kc_4 rfl (v := .ref (x + 1)) (fun H h => ⟨_, h.1, rfl⟩) ?_
  refine mw_steps X 1 (pc' := 242) (lv' := [(0, .ref x), (1, .int (nI 14))]) (st' := [.int (nI 3), .ref (x + 1)]) rfl ?_
  refine mw_cV1r X kd_X3_droppedBy kv_X3_droppedBy kl_X4_77 (ci := 3) rfl rfl (Nat.le_of_ble_eq_true rfl) ⟨Nat.le_of_ble_eq_true rfl, Nat.le_of_ble_eq_true rfl⟩ ⟨Nat.le_of_ble_eq_true rfl, Nat.le_of_ble_eq_true rfl⟩ (fun q z => mx_sub ((fun _ z => z) q z)) (fun H h => ⟨⟨_, h.2.1.1⟩, h.lift0 (fun _ z => z) (have h := h.2.1; zw_dropped hb h (j := 3) (by omega))⟩) ?_
  exact mw_iret X rfl rfl (fun H h => ⟨rfl, h⟩)
set_option maxHeartbeats 4000000 in
set_option maxRecDepth 20000 in
theorem zx_told15 {l : Launch} {Γ : mw_C} {x : Nat} (hx : Γ.2.2.2 ≤ x) {W : Nat → Int32} {ρ : md_R} {H : Heap} {c : Nat} (hH : mx_I Γ x W ρ H) (hv : iv c W) (hk : iv_k ρ) : mw_Cr l Γ mX4_told 5 0 0 (mx_A x) [.ref x, .int (nI 15)] H (some (.int (an_told W ρ 15))) (mx_I Γ x W ρ) := by
  have hb : Γ.2.2.2 ≤ x + 1 := by omega
  refine mw_ofG (P := pX4_told) (by decide) (mx_As hx) oX4_told (Nat.le_of_ble_eq_true rfl) ?_
  intro pg e0 sg mg below meth cd X hs
  refine mw_pre (I' := mx_I Γ x W ρ) (fun H1 h1 => by rw [h1]; exact hH) ?_
  refine mw_steps X 1 (pc' := 1) (lv' := [(0, .ref x), (1, .int (nI 15))]) (st' := [.int (nI 15)]) rfl ?_
  refine mw_tsIn X 15 rfl (by decide) 246 rfl (by decide) rfl rfl ?_
  refine mw_steps X 1 (pc' := 247) (lv' := [(0, .ref x), (1, .int (nI 15))]) (st' := [.ref x]) rfl ?_
  refine mw_get X kf_X4_10.fl kc_4 rfl (v := .ref (x + 1)) (fun H h => ⟨_, h.1, rfl⟩) ?_
  refine mw_get X kf_X4_81 kc_3 rfl (v := .int (W (10))) (fun H h => ⟨_, h.2.1.1, rfl⟩) ?_
  exact mw_iret X rfl rfl (fun H h => ⟨rfl, h⟩)
set_option maxHeartbeats 4000000 in
set_option maxRecDepth 20000 in
theorem zx_told16 {l : Launch} {Γ : mw_C} {x : Nat} (hx : Γ.2.2.2 ≤ x) {W : Nat → Int32} {ρ : md_R} {H : Heap} {c : Nat} (hH : mx_I Γ x W ρ H) (hv : iv c W) (hk : iv_k ρ) : mw_Cr l Γ mX4_told 5 0 0 (mx_A x) [.ref x, .int (nI 16)] H (some (.int (an_told W ρ 16))) (mx_I Γ x W ρ) := by
  have hb : Γ.2.2.2 ≤ x + 1 := by omega
  refine mw_ofG (P := pX4_told) (by decide) (mx_As hx) oX4_told (Nat.le_of_ble_eq_true rfl) ?_
  intro pg e0 sg mg below meth cd X hs
  refine mw_pre (I' := mx_I Γ x W ρ) (fun H1 h1 => by rw [h1]; exact hH) ?_
  refine mw_steps X 1 (pc' := 1) (lv' := [(0, .ref x), (1, .int (nI 16))]) (st' := [.int (nI 16)]) rfl ?_
  refine mw_tsIn X 16 rfl (by decide) 254 rfl (by decide) rfl rfl ?_
  refine mw_steps X 1 (pc' := 255) (lv' := [(0, .ref x), (1, .int (nI 16))]) (st' := [.ref x]) rfl ?_
  refine mw_get X kf_X4_10.fl kc_4 rfl (v := .ref (x + 1)) (fun H h => ⟨_, h.1, rfl⟩) ?_
  refine mw_cV0r X kd_X3_isSettled kv_X3_isSettled kl_X4_84 (ci := 3) rfl rfl (Nat.le_of_ble_eq_true rfl) ⟨Nat.le_of_ble_eq_true rfl, Nat.le_of_ble_eq_true rfl⟩ ⟨Nat.le_of_ble_eq_true rfl, Nat.le_of_ble_eq_true rfl⟩ (fun q z => mx_sub ((fun _ z => z) q z)) (fun H h => ⟨⟨_, h.2.1.1⟩, h.lift0 (fun _ z => z) (have h := h.2.1; zw_settled hb h hv)⟩) ?_
  refine mw_if_eq X 268 rfl rfl (fun c261 => ?_) (fun c261 => ?_)
  · refine mw_steps X 1 (pc' := 269) (lv' := [(0, .ref x), (1, .int (nI 16))]) (st' := [.int (nI 0)]) rfl ?_
    exact mw_iret X rfl rfl (fun H h => ⟨congrArg (fun z => some (Value.int z)) (show nI 0 = mo_b (mo_settled W) from by first | rw [mo_b_nz c261]; rfl | rw [mo_b_z c261]; rfl), h⟩)
  · refine mw_steps X 2 (pc' := 269) (lv' := [(0, .ref x), (1, .int (nI 16))]) (st' := [.int (nI 1)]) rfl ?_
    exact mw_iret X rfl rfl (fun H h => ⟨congrArg (fun z => some (Value.int z)) (show nI 1 = mo_b (mo_settled W) from by first | rw [mo_b_nz c261]; rfl | rw [mo_b_z c261]; rfl), h⟩)
set_option maxHeartbeats 4000000 in
set_option maxRecDepth 20000 in
theorem zx_told17 {l : Launch} {Γ : mw_C} {x : Nat} (hx : Γ.2.2.2 ≤ x) {W : Nat → Int32} {ρ : md_R} {H : Heap} {c : Nat} (hH : mx_I Γ x W ρ H) (hv : iv c W) (hk : iv_k ρ) : mw_Cr l Γ mX4_told 5 0 0 (mx_A x) [.ref x, .int (nI 17)] H (some (.int (an_told W ρ 17))) (mx_I Γ x W ρ) := by
  have hb : Γ.2.2.2 ≤ x + 1 := by omega
  refine mw_ofG (P := pX4_told) (by decide) (mx_As hx) oX4_told (Nat.le_of_ble_eq_true rfl) ?_
  intro pg e0 sg mg below meth cd X hs
  refine mw_pre (I' := mx_I Γ x W ρ) (fun H1 h1 => by rw [h1]; exact hH) ?_
  refine mw_steps X 1 (pc' := 1) (lv' := [(0, .ref x), (1, .int (nI 17))]) (st' := [.int (nI 17)]) rfl ?_
  refine mw_tsIn X 17 rfl (by decide) 270 rfl (by decide) rfl rfl ?_
  refine mw_steps X 1 (pc' := 271) (lv' := [(0, .ref x), (1, .int (nI 17))]) (st' := [.ref x]) rfl ?_
  refine mw_get X kf_X4_21.fl kc_4 rfl (v := .ref (x + 27)) (fun H h => ⟨_, h.1, rfl⟩) ?_
  refine mw_cV0r X kd_X2_size kv_X2_size kl_X4_36 (ci := 2) rfl rfl (Nat.le_of_ble_eq_true rfl) ⟨Nat.le_of_ble_eq_true rfl, Nat.le_of_ble_eq_true rfl⟩ ⟨Nat.le_of_ble_eq_true rfl, Nat.le_of_ble_eq_true rfl⟩ (fun q z => mx_subB z) (fun H h => ⟨h.o_book, xb_size hx h⟩) ?_
  exact mw_iret X rfl rfl (fun H h => ⟨congrArg (fun z => some (Value.int z)) (show nI (mo_n ρ.2.2.2.2.2.2) = ρ.2.2.2.2.2.2 from by obtain ⟨n, hn2, hn, -⟩ := hk; rw [hn, ml_n (by omega)]), h⟩)
set_option maxHeartbeats 4000000 in
set_option maxRecDepth 20000 in
theorem zx_told18 {l : Launch} {Γ : mw_C} {x : Nat} (hx : Γ.2.2.2 ≤ x) {W : Nat → Int32} {ρ : md_R} {H : Heap} {c : Nat} (hH : mx_I Γ x W ρ H) (hv : iv c W) (hk : iv_k ρ) : mw_Cr l Γ mX4_told 5 0 0 (mx_A x) [.ref x, .int (nI 18)] H (some (.int (an_told W ρ 18))) (mx_I Γ x W ρ) := by
  have hb : Γ.2.2.2 ≤ x + 1 := by omega
  refine mw_ofG (P := pX4_told) (by decide) (mx_As hx) oX4_told (Nat.le_of_ble_eq_true rfl) ?_
  intro pg e0 sg mg below meth cd X hs
  refine mw_pre (I' := mx_I Γ x W ρ) (fun H1 h1 => by rw [h1]; exact hH) ?_
  refine mw_steps X 1 (pc' := 1) (lv' := [(0, .ref x), (1, .int (nI 18))]) (st' := [.int (nI 18)]) rfl ?_
  refine mw_tsIn X 18 rfl (by decide) 278 rfl (by decide) rfl rfl ?_
  refine mw_steps X 1 (pc' := 279) (lv' := [(0, .ref x), (1, .int (nI 18))]) (st' := [.ref x]) rfl ?_
  refine mw_cV0r X kd_X4_firstWrong kv_X4_firstWrong kl_X4_88 (ci := 4) rfl rfl (Nat.le_of_ble_eq_true rfl) ⟨Nat.le_of_ble_eq_true rfl, Nat.le_of_ble_eq_true rfl⟩ ⟨Nat.le_of_ble_eq_true rfl, Nat.le_of_ble_eq_true rfl⟩ (fun _ h => h) (fun H h => ⟨⟨_, h.1⟩, zx_wrong hx h hv hk⟩) ?_
  exact mw_iret X rfl rfl (fun H h => ⟨rfl, h⟩)
set_option maxHeartbeats 4000000 in
set_option maxRecDepth 20000 in
theorem zx_told19 {l : Launch} {Γ : mw_C} {x : Nat} (hx : Γ.2.2.2 ≤ x) {W : Nat → Int32} {ρ : md_R} {H : Heap} {c : Nat} (hH : mx_I Γ x W ρ H) (hv : iv c W) (hk : iv_k ρ) : mw_Cr l Γ mX4_told 5 0 0 (mx_A x) [.ref x, .int (nI 19)] H (some (.int (an_told W ρ 19))) (mx_I Γ x W ρ) := by
  have hb : Γ.2.2.2 ≤ x + 1 := by omega
  refine mw_ofG (P := pX4_told) (by decide) (mx_As hx) oX4_told (Nat.le_of_ble_eq_true rfl) ?_
  intro pg e0 sg mg below meth cd X hs
  refine mw_pre (I' := mx_I Γ x W ρ) (fun H1 h1 => by rw [h1]; exact hH) ?_
  refine mw_steps X 1 (pc' := 1) (lv' := [(0, .ref x), (1, .int (nI 19))]) (st' := [.int (nI 19)]) rfl ?_
  refine mw_tsIn X 19 rfl (by decide) 283 rfl (by decide) rfl rfl ?_
  refine mw_steps X 1 (pc' := 284) (lv' := [(0, .ref x), (1, .int (nI 19))]) (st' := [.ref x]) rfl ?_
  refine mw_get X kf_X4_10.fl kc_4 rfl (v := .ref (x + 1)) (fun H h => ⟨_, h.1, rfl⟩) ?_
  refine mw_get X kf_X4_91 kc_3 rfl (v := .int ρ.2.1) (fun H h => ⟨_, h.2.1.1, rfl⟩) ?_
  exact mw_iret X rfl rfl (fun H h => ⟨rfl, h⟩)
set_option maxHeartbeats 4000000 in
set_option maxRecDepth 20000 in
theorem zx_toldU {l : Launch} {Γ : mw_C} {x : Nat} (hx : Γ.2.2.2 ≤ x) {W : Nat → Int32} {ρ : md_R} {H : Heap} {c : Nat} {y : Int32} (hH : mx_I Γ x W ρ H) (hv : iv c W) (hk : iv_k ρ) (hy : mo_bl y 20 = false) : mw_Cr l Γ mX4_told 5 0 0 (mx_A x) [.ref x, .int y] H (some (.int oO)) (mx_I Γ x W ρ) := by
  have hb : Γ.2.2.2 ≤ x + 1 := by omega
  refine mw_ofG (P := pX4_told) (by decide) (mx_As hx) oX4_told (Nat.le_of_ble_eq_true rfl) ?_
  intro pg e0 sg mg below meth cd X hs
  refine mw_pre (I' := mx_I Γ x W ρ) (fun H1 h1 => by rw [h1]; exact hH) ?_
  refine mw_steps X 1 (pc' := 1) (lv' := [(0, .ref x), (1, .int y)]) (st' := [.int y]) rfl ?_
  refine mw_tsOut X 291 rfl (by have := ml_out (by omega) hy; omega) rfl ?_
  refine mw_ldc X kk_X4_94 rfl ?_
  exact mw_iret X rfl rfl (fun H h => ⟨rfl, h⟩)
theorem zx_told {l : Launch} {Γ : mw_C} {x : Nat} (hx : Γ.2.2.2 ≤ x) {W : Nat → Int32} {ρ : md_R} {H : Heap} {c : Nat} {y : Int32} (hH : mx_I Γ x W ρ H) (hv : iv c W) (hk : iv_k ρ) : mw_Cr l Γ mX4_told 5 0 0 (mx_A x) [.ref x, .int y] H (some (.int (op_told W ρ y))) (mx_I Γ x W ρ) := by
  unfold op_told
  cases hb : mo_bl y 20 with
  | false => rw [if_neg (by decide)]; exact zx_toldU hx hH hv hk hb
  | true =>
    obtain ⟨j, hj, rfl⟩ := mo_bl_t hb (by omega)
    rw [if_pos rfl, ml_n (by omega)]
    match j, hj with
    | 0, _ => exact zx_told0 hx hH hv hk
    | 1, _ => exact zx_told1 hx hH hv hk
    | 2, _ => exact zx_told2 hx hH hv hk
    | 3, _ => exact zx_told3 hx hH hv hk
    | 4, _ => exact zx_told4 hx hH hv hk
    | 5, _ => exact zx_told5 hx hH hv hk
    | 6, _ => exact zx_told6 hx hH hv hk
    | 7, _ => exact zx_told7 hx hH hv hk
    | 8, _ => exact zx_told8 hx hH hv hk
    | 9, _ => exact zx_told9 hx hH hv hk
    | 10, _ => exact zx_told10 hx hH hv hk
    | 11, _ => exact zx_told11 hx hH hv hk
    | 12, _ => exact zx_told12 hx hH hv hk
    | 13, _ => exact zx_told13 hx hH hv hk
    | 14, _ => exact zx_told14 hx hH hv hk
    | 15, _ => exact zx_told15 hx hH hv hk
    | 16, _ => exact zx_told16 hx hH hv hk
    | 17, _ => exact zx_told17 hx hH hv hk
    | 18, _ => exact zx_told18 hx hH hv hk
    | 19, _ => exact zx_told19 hx hH hv hk
    | j + 20, hj => exact absurd hj (by omega)
set_option maxHeartbeats 4000000 in
set_option maxRecDepth 20000 in
theorem zx_next0 {l : Launch} {Γ : mw_C} {x : Nat} (hx : Γ.2.2.2 ≤ x) {W : Nat → Int32} {ρ : md_R} {H : Heap} {c : Nat} (hH : mx_I Γ x W ρ H) (hv : iv c W) : mw_Cr l Γ mX4_nextWord 4 0 0 (mx_A x) [.ref x, .int (nI 0)] H (some (.int (op_next W 0).1)) (mx_I Γ x (op_next W 0).2 ρ) := by
  have hb : Γ.2.2.2 ≤ x + 1 := by omega
  obtain ⟨cu, hcu5, hcu⟩ := ml_c2 hv
  obtain ⟨⟨n, hn2, hn⟩, -⟩ := hv.2.2.2.2.2.2.2.1 0 (by omega)
  refine mw_ofG (P := pX4_nextWord) (by decide) (mx_As hx) oX4_nextWord (Nat.le_of_ble_eq_true rfl) ?_
  intro pg e0 sg mg below meth cd X hs
  refine mw_pre (I' := mx_I Γ x W ρ) (fun H1 h1 => by rw [h1]; exact hH) ?_
  refine mw_steps X 1 (pc' := 1) (lv' := [(0, .ref x), (1, .int (nI 0))]) (st' := [.ref x]) rfl ?_
  refine mw_get X kf_X4_10.fl kc_4 rfl (v := .ref (x + 1)) (fun H h => ⟨_, h.1, rfl⟩) ?_
  refine mw_steps X 1 (pc' := 5) (lv' := [(0, .ref x), (1, .int (nI 0))]) (st' := [.int (nI 0), .ref (x + 1)]) rfl ?_
  refine mw_cV1r X kd_X3_endOf kv_X3_endOf kl_X4_100 (ci := 3) rfl rfl (Nat.le_of_ble_eq_true rfl) ⟨Nat.le_of_ble_eq_true rfl, Nat.le_of_ble_eq_true rfl⟩ ⟨Nat.le_of_ble_eq_true rfl, Nat.le_of_ble_eq_true rfl⟩ (fun q z => mx_sub ((fun _ z => z) q z)) (fun H h => ⟨⟨_, h.2.1.1⟩, h.lift0 (fun _ z => z) (have h := h.2.1; zw_endOf0 hb h)⟩) ?_
  refine mw_steps X 2 (pc' := 10) (lv' := [(2, .ref (x + 1 + 15)), (0, .ref x), (1, .int (nI 0))]) (st' := [.ref (x + 1 + 15)]) rfl ?_
  refine mw_get X kf_X4_104 kc_0 rfl (v := .int (nI n)) (fun H h => ⟨_, h.2.1.2.2.2.2.2.2.2.2.1, congrArg (fun z => some (Value.int z)) hn⟩) ?_
  refine mw_steps X 1 (pc' := 15) (lv' := [(2, .ref (x + 1 + 15)), (0, .ref x), (1, .int (nI 0))]) (st' := [.int (nI 40), .int (nI n)]) rfl ?_
  refine mw_icmp_lt X 21 rfl rfl (fun c15 => ?_) (fun c15 => ?_)
  · refine mw_steps X 1 (pc' := 22) (lv' := [(2, .ref (x + 1 + 15)), (0, .ref x), (1, .int (nI 0))]) (st' := [.ref (x + 1 + 15)]) rfl ?_
    refine mw_get X kf_X4_104 kc_0 rfl (v := .int (nI n)) (fun H h => ⟨_, h.2.1.2.2.2.2.2.2.2.2.1, congrArg (fun z => some (Value.int z)) hn⟩) ?_
    refine mw_steps X 5 (pc' := 30) (lv' := [(3, .int (nI n)), (2, .ref (x + 1 + 15)), (0, .ref x), (1, .int (nI 0))]) (st' := [.int ((nI n) + (nI 1)), .ref (x + 1 + 15)]) rfl ?_
    refine mw_put X kf_X4_104 kc_0 ⟨_, _, _, .int, rfl, rfl, by decide, rfl, rfl⟩ rfl (I1 := mx_I Γ x (upd W (18) ((nI n) + (nI 1))) ρ) (fun H h => ⟨(mx_sub (ws_A0 (by omega))), _, h.2.1.2.2.2.2.2.2.2.2.1, Nat.le_of_ble_eq_true rfl, fun H1 o c => h.one0 o (ws_A0 (by omega)) (h.2.1.s18 o c)⟩) ?_
    refine mw_steps X 1 (pc' := 34) (lv' := [(3, .int (nI n)), (2, .ref (x + 1 + 15)), (0, .ref x), (1, .int (nI 0))]) (st' := [.ref x]) rfl ?_
    refine mw_get X kf_X4_10.fl kc_4 rfl (v := .ref (x + 1)) (fun H h => ⟨_, h.1, rfl⟩) ?_
    refine mw_steps X 2 (pc' := 39) (lv' := [(3, .int (nI n)), (2, .ref (x + 1 + 15)), (0, .ref x), (1, .int (nI 0))]) (st' := [.ref (x + 1 + 15), .int (nI 0), .ref (x + 1)]) rfl ?_
    refine mw_get X kf_X4_50 kc_0 rfl (v := .int (nI cu)) (fun H h => ⟨_, h.2.1.2.2.2.2.2.2.2.2.1, congrArg (fun z => some (Value.int z)) (by simp (disch := omega) only [pk_un]; exact hcu)⟩) ?_
    refine mw_steps X 2 (pc' := 44) (lv' := [(3, .int (nI n)), (2, .ref (x + 1 + 15)), (0, .ref x), (1, .int (nI 0))]) (st' := [.int (nI n), .int (nI 0), .int (nI cu), .int (nI 0), .ref (x + 1)]) rfl ?_
    refine mw_cV4v X kd_X3_writes kv_X3_writes kl_X4_158 (ci := 3) rfl rfl (Nat.le_of_ble_eq_true rfl) ⟨Nat.le_of_ble_eq_true rfl, Nat.le_of_ble_eq_true rfl⟩ ⟨Nat.le_of_ble_eq_true rfl, Nat.le_of_ble_eq_true rfl⟩ (fun q z => mx_sub ((fun _ z => z) q z)) (fun H h => ⟨⟨_, h.2.1.1⟩, h.lift0 (fun _ z => z) (have h := h.2.1; zw_goes0 hb h (hv.1.cg (fun j a c => by rw [pk_un (by omega)])) hcu5 (by omega))⟩) ?_
    refine mw_steps X 1 (pc' := 48) (lv' := [(3, .int (nI n)), (2, .ref (x + 1 + 15)), (0, .ref x), (1, .int (nI 0))]) (st' := [.int (nI n)]) rfl ?_
    have hop : op_next W 0 = (nI n, mo_goes (upd W (18) ((nI n) + (nI 1))) 0 cu 0 (nI n)) := by unfold op_next; rw [if_neg (show ¬ W (18 + 0) = nI 40 from by rw [show W (18 + 0) = nI n from hn, nI_eq (by omega) (by omega)]; rw [nI_ltI (by omega) (by omega)] at c15; omega), show W (18 + 0) = nI n from hn, show W (2 + 0) = nI cu from hcu, ml_n (by omega)]
    exact mw_iret X rfl rfl (fun H h => ⟨by rw [hop], by rw [hop]; exact h⟩)
  · refine mw_ldc X kk_X4_174 rfl ?_
    have hop : op_next W 0 = ((-1000000004), W) := by unfold op_next; rw [if_pos (show W (18 + 0) = nI 40 from by rw [show W (18 + 0) = nI n from hn, show n = 40 by rw [nI_ltI (by omega) (by omega)] at c15; omega])]
    exact mw_iret X rfl rfl (fun H h => ⟨by rw [hop], by rw [hop]; exact h⟩)
set_option maxHeartbeats 4000000 in
set_option maxRecDepth 20000 in
theorem zx_next1 {l : Launch} {Γ : mw_C} {x : Nat} (hx : Γ.2.2.2 ≤ x) {W : Nat → Int32} {ρ : md_R} {H : Heap} {c : Nat} (hH : mx_I Γ x W ρ H) (hv : iv c W) : mw_Cr l Γ mX4_nextWord 4 0 0 (mx_A x) [.ref x, .int (nI 1)] H (some (.int (op_next W 1).1)) (mx_I Γ x (op_next W 1).2 ρ) := by
  have hb : Γ.2.2.2 ≤ x + 1 := by omega
  obtain ⟨cu, hcu5, hcu⟩ := ml_c3 hv
  obtain ⟨⟨n, hn2, hn⟩, -⟩ := hv.2.2.2.2.2.2.2.1 1 (by omega)
  refine mw_ofG (P := pX4_nextWord) (by decide) (mx_As hx) oX4_nextWord (Nat.le_of_ble_eq_true rfl) ?_
  intro pg e0 sg mg below meth cd X hs
  refine mw_pre (I' := mx_I Γ x W ρ) (fun H1 h1 => by rw [h1]; exact hH) ?_
  refine mw_steps X 1 (pc' := 1) (lv' := [(0, .ref x), (1, .int (nI 1))]) (st' := [.ref x]) rfl ?_
  refine mw_get X kf_X4_10.fl kc_4 rfl (v := .ref (x + 1)) (fun H h => ⟨_, h.1, rfl⟩) ?_
  refine mw_steps X 1 (pc' := 5) (lv' := [(0, .ref x), (1, .int (nI 1))]) (st' := [.int (nI 1), .ref (x + 1)]) rfl ?_
  refine mw_cV1r X kd_X3_endOf kv_X3_endOf kl_X4_100 (ci := 3) rfl rfl (Nat.le_of_ble_eq_true rfl) ⟨Nat.le_of_ble_eq_true rfl, Nat.le_of_ble_eq_true rfl⟩ ⟨Nat.le_of_ble_eq_true rfl, Nat.le_of_ble_eq_true rfl⟩ (fun q z => mx_sub ((fun _ z => z) q z)) (fun H h => ⟨⟨_, h.2.1.1⟩, h.lift0 (fun _ z => z) (have h := h.2.1; zw_endOf1 hb h)⟩) ?_
  refine mw_steps X 2 (pc' := 10) (lv' := [(2, .ref (x + 1 + 20)), (0, .ref x), (1, .int (nI 1))]) (st' := [.ref (x + 1 + 20)]) rfl ?_
  refine mw_get X kf_X4_104 kc_0 rfl (v := .int (nI n)) (fun H h => ⟨_, h.2.1.2.2.2.2.2.2.2.2.2.2.2.1, congrArg (fun z => some (Value.int z)) hn⟩) ?_
  refine mw_steps X 1 (pc' := 15) (lv' := [(2, .ref (x + 1 + 20)), (0, .ref x), (1, .int (nI 1))]) (st' := [.int (nI 40), .int (nI n)]) rfl ?_
  refine mw_icmp_lt X 21 rfl rfl (fun c15 => ?_) (fun c15 => ?_)
  · refine mw_steps X 1 (pc' := 22) (lv' := [(2, .ref (x + 1 + 20)), (0, .ref x), (1, .int (nI 1))]) (st' := [.ref (x + 1 + 20)]) rfl ?_
    refine mw_get X kf_X4_104 kc_0 rfl (v := .int (nI n)) (fun H h => ⟨_, h.2.1.2.2.2.2.2.2.2.2.2.2.2.1, congrArg (fun z => some (Value.int z)) hn⟩) ?_
    refine mw_steps X 5 (pc' := 30) (lv' := [(3, .int (nI n)), (2, .ref (x + 1 + 20)), (0, .ref x), (1, .int (nI 1))]) (st' := [.int ((nI n) + (nI 1)), .ref (x + 1 + 20)]) rfl ?_
    refine mw_put X kf_X4_104 kc_0 ⟨_, _, _, .int, rfl, rfl, by decide, rfl, rfl⟩ rfl (I1 := mx_I Γ x (upd W (19) ((nI n) + (nI 1))) ρ) (fun H h => ⟨(mx_sub (ws_A0 (by omega))), _, h.2.1.2.2.2.2.2.2.2.2.2.2.2.1, Nat.le_of_ble_eq_true rfl, fun H1 o c => h.one0 o (ws_A0 (by omega)) (h.2.1.s19 o c)⟩) ?_
    refine mw_steps X 1 (pc' := 34) (lv' := [(3, .int (nI n)), (2, .ref (x + 1 + 20)), (0, .ref x), (1, .int (nI 1))]) (st' := [.ref x]) rfl ?_
    refine mw_get X kf_X4_10.fl kc_4 rfl (v := .ref (x + 1)) (fun H h => ⟨_, h.1, rfl⟩) ?_
    refine mw_steps X 2 (pc' := 39) (lv' := [(3, .int (nI n)), (2, .ref (x + 1 + 20)), (0, .ref x), (1, .int (nI 1))]) (st' := [.ref (x + 1 + 20), .int (nI 1), .ref (x + 1)]) rfl ?_
    refine mw_get X kf_X4_50 kc_0 rfl (v := .int (nI cu)) (fun H h => ⟨_, h.2.1.2.2.2.2.2.2.2.2.2.2.2.1, congrArg (fun z => some (Value.int z)) (by simp (disch := omega) only [pk_un]; exact hcu)⟩) ?_
    refine mw_steps X 2 (pc' := 44) (lv' := [(3, .int (nI n)), (2, .ref (x + 1 + 20)), (0, .ref x), (1, .int (nI 1))]) (st' := [.int (nI n), .int (nI 0), .int (nI cu), .int (nI 1), .ref (x + 1)]) rfl ?_
    refine mw_cV4v X kd_X3_writes kv_X3_writes kl_X4_158 (ci := 3) rfl rfl (Nat.le_of_ble_eq_true rfl) ⟨Nat.le_of_ble_eq_true rfl, Nat.le_of_ble_eq_true rfl⟩ ⟨Nat.le_of_ble_eq_true rfl, Nat.le_of_ble_eq_true rfl⟩ (fun q z => mx_sub ((fun _ z => z) q z)) (fun H h => ⟨⟨_, h.2.1.1⟩, h.lift0 (fun _ z => z) (have h := h.2.1; zw_goes1 hb h (hv.1.cg (fun j a c => by rw [pk_un (by omega)])) hcu5 (by omega))⟩) ?_
    refine mw_steps X 1 (pc' := 48) (lv' := [(3, .int (nI n)), (2, .ref (x + 1 + 20)), (0, .ref x), (1, .int (nI 1))]) (st' := [.int (nI n)]) rfl ?_
    have hop : op_next W 1 = (nI n, mo_goes (upd W (19) ((nI n) + (nI 1))) 1 cu 0 (nI n)) := by unfold op_next; rw [if_neg (show ¬ W (18 + 1) = nI 40 from by rw [show W (18 + 1) = nI n from hn, nI_eq (by omega) (by omega)]; rw [nI_ltI (by omega) (by omega)] at c15; omega), show W (18 + 1) = nI n from hn, show W (2 + 1) = nI cu from hcu, ml_n (by omega)]
    exact mw_iret X rfl rfl (fun H h => ⟨by rw [hop], by rw [hop]; exact h⟩)
  · refine mw_ldc X kk_X4_174 rfl ?_
    have hop : op_next W 1 = ((-1000000004), W) := by unfold op_next; rw [if_pos (show W (18 + 1) = nI 40 from by rw [show W (18 + 1) = nI n from hn, show n = 40 by rw [nI_ltI (by omega) (by omega)] at c15; omega])]
    exact mw_iret X rfl rfl (fun H h => ⟨by rw [hop], by rw [hop]; exact h⟩)
set_option maxHeartbeats 4000000 in
set_option maxRecDepth 20000 in
theorem zx_say {l : Launch} {Γ : mw_C} {x : Nat} (hx : Γ.2.2.2 ≤ x) {W : Nat → Int32} {ρ : md_R} {H : Heap} {c : Nat} (hH : mx_I Γ x W ρ H) (hv : iv c W) : mw_Cr l Γ mX4_say 5 0 0 (mx_A x) [.ref x] H (some (.int (op_next W 0).1)) (mx_I Γ x (op_next W 0).2 ρ) := by
  have hb : Γ.2.2.2 ≤ x + 1 := by omega
  refine mw_ofG (P := pX4_say) (by decide) (mx_As hx) oX4_say (Nat.le_of_ble_eq_true rfl) ?_
  intro pg e0 sg mg below meth cd X hs
  refine mw_pre (I' := mx_I Γ x W ρ) (fun H1 h1 => by rw [h1]; exact hH) ?_
  refine mw_steps X 2 (pc' := 2) (lv' := [(0, .ref x)]) (st' := [.int (nI 0), .ref x]) rfl ?_
  refine mw_cV1r X kd_X4_nextWord kv_X4_nextWord kl_X4_141 (ci := 4) rfl rfl (Nat.le_of_ble_eq_true rfl) ⟨Nat.le_of_ble_eq_true rfl, Nat.le_of_ble_eq_true rfl⟩ ⟨Nat.le_of_ble_eq_true rfl, Nat.le_of_ble_eq_true rfl⟩ (fun _ h => h) (fun H h => ⟨⟨_, h.1⟩, zx_next0 hx h hv⟩) ?_
  exact mw_iret X rfl rfl (fun H h => ⟨rfl, h⟩)
set_option maxHeartbeats 4000000 in
set_option maxRecDepth 20000 in
theorem zx_speak {l : Launch} {Γ : mw_C} {x : Nat} (hx : Γ.2.2.2 ≤ x) {W : Nat → Int32} {ρ : md_R} {H : Heap} {c : Nat} (hH : mx_I Γ x W ρ H) (hv : iv c W) : mw_Cr l Γ mX4_speak 5 0 0 (mx_A x) [.ref x] H (some (.int (op_next W 1).1)) (mx_I Γ x (op_next W 1).2 ρ) := by
  have hb : Γ.2.2.2 ≤ x + 1 := by omega
  refine mw_ofG (P := pX4_speak) (by decide) (mx_As hx) oX4_speak (Nat.le_of_ble_eq_true rfl) ?_
  intro pg e0 sg mg below meth cd X hs
  refine mw_pre (I' := mx_I Γ x W ρ) (fun H1 h1 => by rw [h1]; exact hH) ?_
  refine mw_steps X 2 (pc' := 2) (lv' := [(0, .ref x)]) (st' := [.int (nI 1), .ref x]) rfl ?_
  refine mw_cV1r X kd_X4_nextWord kv_X4_nextWord kl_X4_141 (ci := 4) rfl rfl (Nat.le_of_ble_eq_true rfl) ⟨Nat.le_of_ble_eq_true rfl, Nat.le_of_ble_eq_true rfl⟩ ⟨Nat.le_of_ble_eq_true rfl, Nat.le_of_ble_eq_true rfl⟩ (fun _ h => h) (fun H h => ⟨⟨_, h.1⟩, zx_next1 hx h hv⟩) ?_
  exact mw_iret X rfl rfl (fun H h => ⟨rfl, h⟩)
set_option maxHeartbeats 4000000 in
set_option maxRecDepth 20000 in
theorem zx_open {l : Launch} {Γ : mw_C} {x : Nat} (hx : Γ.2.2.2 ≤ x) {W : Nat → Int32} {ρ : md_R} {H : Heap} {c : Nat} {y : Int32} (hH : mx_I Γ x W ρ H) (hv : iv c W) : mw_Cr l Γ mX4_open 4 0 0 (mx_A x) [.ref x, .int y] H (some (.int (op_open W y).1)) (mx_I Γ x (op_open W y).2 ρ) := by
  have hb : Γ.2.2.2 ≤ x + 1 := by omega
  refine mw_ofG (P := pX4_open) (by decide) (mx_As hx) oX4_open (Nat.le_of_ble_eq_true rfl) ?_
  intro pg e0 sg mg below meth cd X hs
  refine mw_pre (I' := mx_I Γ x W ρ) (fun H1 h1 => by rw [h1]; exact hH) ?_
  refine mw_steps X 1 (pc' := 1) (lv' := [(0, .ref x), (1, .int y)]) (st' := [.int y]) rfl ?_
  refine mw_cS1r X kd_X4_isPlace ks_X4_isPlace kl_X4_122 rfl (Nat.le_of_ble_eq_true rfl) ⟨Nat.le_of_ble_eq_true rfl, Nat.le_of_ble_eq_true rfl⟩ ⟨Nat.le_of_ble_eq_true rfl, Nat.le_of_ble_eq_true rfl⟩ (fun _ h => h) (fun H h => zx_isPlace hx h) ?_
  refine mw_if_ne X 10 rfl rfl (fun c4 => ?_) (fun c4 => ?_)
  · obtain ⟨p, hp, rfl⟩ := mo_bl_t (mo_b_nz c4) (by omega)
    have hop := ml_opn hv hp
    have hbl := mo_bl_n hp (show 5 ≤ 100000 by omega)
    have hmn : mo_n (nI p) = p := ml_n (by omega)
    refine mw_steps X 1 (pc' := 11) (lv' := [(0, .ref x), (1, .int (nI p))]) (st' := [.ref x]) rfl ?_
    refine mw_get X kf_X4_10.fl kc_4 rfl (v := .ref (x + 1)) (fun H h => ⟨_, h.1, rfl⟩) ?_
    refine mw_steps X 1 (pc' := 15) (lv' := [(0, .ref x), (1, .int (nI p))]) (st' := [.int (nI p), .ref (x + 1)]) rfl ?_
    refine mw_cV1r X kd_X3_isOpen kv_X3_isOpen kl_X4_144 (ci := 3) rfl rfl (Nat.le_of_ble_eq_true rfl) ⟨Nat.le_of_ble_eq_true rfl, Nat.le_of_ble_eq_true rfl⟩ ⟨Nat.le_of_ble_eq_true rfl, Nat.le_of_ble_eq_true rfl⟩ (fun q z => mx_sub ((fun _ z => z) q z)) (fun H h => ⟨⟨_, h.2.1.1⟩, h.lift0 (fun _ z => z) (have h := h.2.1; zw_isOpen hb h hp)⟩) ?_
    refine mw_if_ne X 34 rfl rfl (fun c18 => ?_) (fun c18 => ?_)
    · refine mw_ldc X kk_X4_147 rfl ?_
      have hq : op_open W (nI p) = ((-1000000003), W) := by unfold op_open; rw [if_pos hbl, hmn, if_pos (by first | exact Or.inl (by have := mo_b_nz c18; rw [hop] at this; exact of_decide_eq_true this) | exact Or.inr (ml_cnt_least.mp c31))]
      exact mw_iret X rfl rfl (fun H h => ⟨by rw [hq], by rw [hq]; exact h⟩)
    · refine mw_steps X 1 (pc' := 22) (lv' := [(0, .ref x), (1, .int (nI p))]) (st' := [.ref x]) rfl ?_
      refine mw_get X kf_X4_10.fl kc_4 rfl (v := .ref (x + 1)) (fun H h => ⟨_, h.1, rfl⟩) ?_
      refine mw_get X kf_X4_71 kc_3 rfl (v := .ref (x + 1 + 11)) (fun H h => ⟨_, h.2.1.1, rfl⟩) ?_
      refine mw_cV0r X kd_X1_size kv_X1_size kl_X4_68 (ci := 1) rfl rfl (Nat.le_of_ble_eq_true rfl) ⟨Nat.le_of_ble_eq_true rfl, Nat.le_of_ble_eq_true rfl⟩ ⟨Nat.le_of_ble_eq_true rfl, Nat.le_of_ble_eq_true rfl⟩ (fun q z => mx_sub ((ws_sub 11 (by omega)) q z)) (fun H h => ⟨(have h := h.2.1; h.o_spare), h.lift0 (ws_sub 11 (by omega)) (have h := h.2.1; y6_size hb h)⟩) ?_
      refine mw_if_ne X 37 rfl rfl (fun c31 => ?_) (fun c31 => ?_)
      · refine mw_steps X 1 (pc' := 38) (lv' := [(0, .ref x), (1, .int (nI p))]) (st' := [.ref x]) rfl ?_
        refine mw_get X kf_X4_10.fl kc_4 rfl (v := .ref (x + 1)) (fun H h => ⟨_, h.1, rfl⟩) ?_
        refine mw_steps X 1 (pc' := 42) (lv' := [(0, .ref x), (1, .int (nI p))]) (st' := [.int (nI p), .ref (x + 1)]) rfl ?_
        refine mw_cV1r X kd_X3_opens kv_X3_opens kl_X4_148 (ci := 3) rfl rfl (Nat.le_of_ble_eq_true rfl) ⟨Nat.le_of_ble_eq_true rfl, Nat.le_of_ble_eq_true rfl⟩ ⟨Nat.le_of_ble_eq_true rfl, Nat.le_of_ble_eq_true rfl⟩ (fun q z => mx_sub ((fun _ z => z) q z)) (fun H h => ⟨⟨_, h.2.1.1⟩, h.lift0 (fun _ z => z) (have h := h.2.1; zw_open hb h hv hp (Decidable.byContradiction (fun q => c31 (ml_cnt_least.mpr q))))⟩) ?_
        have hq : op_open W (nI p) = (nI (mo_least W), mo_challenge (upd (upd (upd W (87 + mo_least W) (nI 2)) (22 + p) (nI (mo_least W))) (27 + p) (nI 0)) 0 p) := by unfold op_open; rw [if_pos hbl, hmn, if_neg (by rintro (q | q); exact absurd q (by have := mo_b_z c18; rw [hop] at this; exact of_decide_eq_false this); exact c31 (ml_cnt_least.mpr q))]
        exact mw_iret X rfl rfl (fun H h => ⟨by rw [hq], by rw [hq]; exact h⟩)
      · refine mw_ldc X kk_X4_147 rfl ?_
        have hq : op_open W (nI p) = ((-1000000003), W) := by unfold op_open; rw [if_pos hbl, hmn, if_pos (by first | exact Or.inl (by have := mo_b_nz c18; rw [hop] at this; exact of_decide_eq_true this) | exact Or.inr (ml_cnt_least.mp c31))]
        exact mw_iret X rfl rfl (fun H h => ⟨by rw [hq], by rw [hq]; exact h⟩)
  · refine mw_ldc X kk_X4_99 rfl ?_
    have hq : op_open W y = ((-1000000001), W) := by unfold op_open; rw [if_neg (by rw [mo_b_z c4]; decide)]
    exact mw_iret X rfl rfl (fun H h => ⟨by rw [hq], by rw [hq]; exact h⟩)
set_option maxHeartbeats 4000000 in
set_option maxRecDepth 20000 in
theorem zx_go {l : Launch} {Γ : mw_C} {x : Nat} (hx : Γ.2.2.2 ≤ x) {W : Nat → Int32} {ρ : md_R} {H : Heap} {c : Nat} {y : Int32} (hH : mx_I Γ x W ρ H) (hv : iv c W) : mw_Cr l Γ mX4_go 4 0 0 (mx_A x) [.ref x, .int y] H (some (.int (op_go W y).1)) (mx_I Γ x (op_go W y).2 ρ) := by
  have hb : Γ.2.2.2 ≤ x + 1 := by omega
  refine mw_ofG (P := pX4_go) (by decide) (mx_As hx) oX4_go (Nat.le_of_ble_eq_true rfl) ?_
  intro pg e0 sg mg below meth cd X hs
  refine mw_pre (I' := mx_I Γ x W ρ) (fun H1 h1 => by rw [h1]; exact hH) ?_
  refine mw_steps X 1 (pc' := 1) (lv' := [(0, .ref x), (1, .int y)]) (st' := [.int y]) rfl ?_
  refine mw_cS1r X kd_X4_isPlace ks_X4_isPlace kl_X4_122 rfl (Nat.le_of_ble_eq_true rfl) ⟨Nat.le_of_ble_eq_true rfl, Nat.le_of_ble_eq_true rfl⟩ ⟨Nat.le_of_ble_eq_true rfl, Nat.le_of_ble_eq_true rfl⟩ (fun _ h => h) (fun H h => zx_isPlace hx h) ?_
  refine mw_if_ne X 10 rfl rfl (fun c4 => ?_) (fun c4 => ?_)
  · obtain ⟨p, hp, rfl⟩ := mo_bl_t (mo_b_nz c4) (by omega)
    have hop := ml_opn hv hp
    have hbl := mo_bl_n hp (show 5 ≤ 100000 by omega)
    have hmn : mo_n (nI p) = p := ml_n (by omega)
    refine mw_steps X 1 (pc' := 11) (lv' := [(0, .ref x), (1, .int (nI p))]) (st' := [.ref x]) rfl ?_
    refine mw_get X kf_X4_10.fl kc_4 rfl (v := .ref (x + 1)) (fun H h => ⟨_, h.1, rfl⟩) ?_
    refine mw_steps X 1 (pc' := 15) (lv' := [(0, .ref x), (1, .int (nI p))]) (st' := [.int (nI p), .ref (x + 1)]) rfl ?_
    refine mw_cV1r X kd_X3_isOpen kv_X3_isOpen kl_X4_144 (ci := 3) rfl rfl (Nat.le_of_ble_eq_true rfl) ⟨Nat.le_of_ble_eq_true rfl, Nat.le_of_ble_eq_true rfl⟩ ⟨Nat.le_of_ble_eq_true rfl, Nat.le_of_ble_eq_true rfl⟩ (fun q z => mx_sub ((fun _ z => z) q z)) (fun H h => ⟨⟨_, h.2.1.1⟩, h.lift0 (fun _ z => z) (have h := h.2.1; zw_isOpen hb h hp)⟩) ?_
    refine mw_if_eq X 35 rfl rfl (fun c18 => ?_) (fun c18 => ?_)
    · refine mw_ldc X kk_X4_147 rfl ?_
      have hq : op_go W (nI p) = ((-1000000003), W) := by unfold op_go; rw [if_pos hbl, hmn, if_pos (by first | exact Or.inl (Int32.not_le.mp (by have := mo_b_z c18; rw [hop] at this; exact of_decide_eq_false this)) | exact Or.inr c32)]
      exact mw_iret X rfl rfl (fun H h => ⟨by rw [hq], by rw [hq]; exact h⟩)
    · refine mw_steps X 1 (pc' := 22) (lv' := [(0, .ref x), (1, .int (nI p))]) (st' := [.ref x]) rfl ?_
      refine mw_get X kf_X4_10.fl kc_4 rfl (v := .ref (x + 1)) (fun H h => ⟨_, h.1, rfl⟩) ?_
      refine mw_get X kf_X4_46 kc_3 rfl (v := .ref (x + 1 + 15)) (fun H h => ⟨_, h.2.1.1, rfl⟩) ?_
      refine mw_get X kf_X4_50 kc_0 rfl (v := .int (W (2))) (fun H h => ⟨_, h.2.1.2.2.2.2.2.2.2.2.1, congrArg (fun z => some (Value.int z)) rfl⟩) ?_
      refine mw_steps X 1 (pc' := 32) (lv' := [(0, .ref x), (1, .int (nI p))]) (st' := [.int (nI p), .int (W (2))]) rfl ?_
      refine mw_icmp_ne X 38 rfl rfl (fun c32 => ?_) (fun c32 => ?_)
      · refine mw_steps X 1 (pc' := 39) (lv' := [(0, .ref x), (1, .int (nI p))]) (st' := [.ref x]) rfl ?_
        refine mw_get X kf_X4_10.fl kc_4 rfl (v := .ref (x + 1)) (fun H h => ⟨_, h.1, rfl⟩) ?_
        refine mw_steps X 1 (pc' := 43) (lv' := [(0, .ref x), (1, .int (nI p))]) (st' := [.int (nI p), .ref (x + 1)]) rfl ?_
        refine mw_cV1v X kd_X3_goesTo kv_X3_goesTo kl_X4_151 (ci := 3) rfl rfl (Nat.le_of_ble_eq_true rfl) ⟨Nat.le_of_ble_eq_true rfl, Nat.le_of_ble_eq_true rfl⟩ ⟨Nat.le_of_ble_eq_true rfl, Nat.le_of_ble_eq_true rfl⟩ (fun q z => mx_sub ((fun _ z => z) q z)) (fun H h => ⟨⟨_, h.2.1.1⟩, h.lift0 (fun _ z => z) (have h := h.2.1; zw_goTo hb h hv hp)⟩) ?_
        refine mw_steps X 1 (pc' := 47) (lv' := [(0, .ref x), (1, .int (nI p))]) (st' := [.ref x]) rfl ?_
        refine mw_get X kf_X4_10.fl kc_4 rfl (v := .ref (x + 1)) (fun H h => ⟨_, h.1, rfl⟩) ?_
        refine mw_get X kf_X4_46 kc_3 rfl (v := .ref (x + 1 + 15)) (fun H h => ⟨_, h.2.1.1, rfl⟩) ?_
        refine mw_get X kf_X4_58 kc_0 rfl (v := .int ((mo_goTo W p) (4))) (fun H h => ⟨_, h.2.1.2.2.2.2.2.2.2.2.1, congrArg (fun z => some (Value.int z)) rfl⟩) ?_
        have hq : op_go W (nI p) = ((mo_goTo W p) (4), mo_goTo W p) := by unfold op_go; rw [if_pos hbl, hmn, if_neg (by rintro (q | q); exact absurd q (Int32.not_lt.mpr (by have := mo_b_nz c18; rw [hop] at this; exact of_decide_eq_true this)); exact c32 q)]
        exact mw_iret X rfl rfl (fun H h => ⟨by rw [hq], by rw [hq]; exact h⟩)
      · refine mw_ldc X kk_X4_147 rfl ?_
        have hq : op_go W (nI p) = ((-1000000003), W) := by unfold op_go; rw [if_pos hbl, hmn, if_pos (by first | exact Or.inl (Int32.not_le.mp (by have := mo_b_z c18; rw [hop] at this; exact of_decide_eq_false this)) | exact Or.inr c32)]
        exact mw_iret X rfl rfl (fun H h => ⟨by rw [hq], by rw [hq]; exact h⟩)
  · refine mw_ldc X kk_X4_99 rfl ?_
    have hq : op_go W y = ((-1000000001), W) := by unfold op_go; rw [if_neg (by rw [mo_b_z c4]; decide)]
    exact mw_iret X rfl rfl (fun H h => ⟨by rw [hq], by rw [hq]; exact h⟩)
set_option maxHeartbeats 4000000 in
set_option maxRecDepth 20000 in
theorem zx_close {l : Launch} {Γ : mw_C} {x : Nat} (hx : Γ.2.2.2 ≤ x) {W : Nat → Int32} {ρ : md_R} {H : Heap} {c : Nat} {y : Int32} (hH : mx_I Γ x W ρ H) (hv : iv c W) : mw_Cr l Γ mX4_close 4 0 0 (mx_A x) [.ref x, .int y] H (some (.int (op_close W y).1)) (mx_I Γ x (op_close W y).2 ρ) := by
  have hb : Γ.2.2.2 ≤ x + 1 := by omega
  refine mw_ofG (P := pX4_close) (by decide) (mx_As hx) oX4_close (Nat.le_of_ble_eq_true rfl) ?_
  intro pg e0 sg mg below meth cd X hs
  refine mw_pre (I' := mx_I Γ x W ρ) (fun H1 h1 => by rw [h1]; exact hH) ?_
  refine mw_steps X 1 (pc' := 1) (lv' := [(0, .ref x), (1, .int y)]) (st' := [.int y]) rfl ?_
  refine mw_cS1r X kd_X4_isPlace ks_X4_isPlace kl_X4_122 rfl (Nat.le_of_ble_eq_true rfl) ⟨Nat.le_of_ble_eq_true rfl, Nat.le_of_ble_eq_true rfl⟩ ⟨Nat.le_of_ble_eq_true rfl, Nat.le_of_ble_eq_true rfl⟩ (fun _ h => h) (fun H h => zx_isPlace hx h) ?_
  refine mw_if_ne X 10 rfl rfl (fun c4 => ?_) (fun c4 => ?_)
  · obtain ⟨p, hp, rfl⟩ := mo_bl_t (mo_b_nz c4) (by omega)
    have hop := ml_opn hv hp
    have hbl := mo_bl_n hp (show 5 ≤ 100000 by omega)
    have hmn : mo_n (nI p) = p := ml_n (by omega)
    refine mw_steps X 1 (pc' := 11) (lv' := [(0, .ref x), (1, .int (nI p))]) (st' := [.ref x]) rfl ?_
    refine mw_get X kf_X4_10.fl kc_4 rfl (v := .ref (x + 1)) (fun H h => ⟨_, h.1, rfl⟩) ?_
    refine mw_steps X 1 (pc' := 15) (lv' := [(0, .ref x), (1, .int (nI p))]) (st' := [.int (nI p), .ref (x + 1)]) rfl ?_
    refine mw_cV1r X kd_X3_isOpen kv_X3_isOpen kl_X4_144 (ci := 3) rfl rfl (Nat.le_of_ble_eq_true rfl) ⟨Nat.le_of_ble_eq_true rfl, Nat.le_of_ble_eq_true rfl⟩ ⟨Nat.le_of_ble_eq_true rfl, Nat.le_of_ble_eq_true rfl⟩ (fun q z => mx_sub ((fun _ z => z) q z)) (fun H h => ⟨⟨_, h.2.1.1⟩, h.lift0 (fun _ z => z) (have h := h.2.1; zw_isOpen hb h hp)⟩) ?_
    refine mw_if_eq X 35 rfl rfl (fun c18 => ?_) (fun c18 => ?_)
    · refine mw_ldc X kk_X4_147 rfl ?_
      have hq : op_close W (nI p) = ((-1000000003), W) := by unfold op_close; rw [if_pos hbl, hmn, if_pos (by first | exact Or.inl (Int32.not_le.mp (by have := mo_b_z c18; rw [hop] at this; exact of_decide_eq_false this)) | exact Or.inr c32)]
      exact mw_iret X rfl rfl (fun H h => ⟨by rw [hq], by rw [hq]; exact h⟩)
    · refine mw_steps X 1 (pc' := 22) (lv' := [(0, .ref x), (1, .int (nI p))]) (st' := [.ref x]) rfl ?_
      refine mw_get X kf_X4_10.fl kc_4 rfl (v := .ref (x + 1)) (fun H h => ⟨_, h.1, rfl⟩) ?_
      refine mw_get X kf_X4_46 kc_3 rfl (v := .ref (x + 1 + 15)) (fun H h => ⟨_, h.2.1.1, rfl⟩) ?_
      refine mw_get X kf_X4_50 kc_0 rfl (v := .int (W (2))) (fun H h => ⟨_, h.2.1.2.2.2.2.2.2.2.2.1, congrArg (fun z => some (Value.int z)) rfl⟩) ?_
      refine mw_steps X 1 (pc' := 32) (lv' := [(0, .ref x), (1, .int (nI p))]) (st' := [.int (nI p), .int (W (2))]) rfl ?_
      refine mw_icmp_ne X 38 rfl rfl (fun c32 => ?_) (fun c32 => ?_)
      · refine mw_steps X 1 (pc' := 39) (lv' := [(0, .ref x), (1, .int (nI p))]) (st' := [.ref x]) rfl ?_
        refine mw_get X kf_X4_10.fl kc_4 rfl (v := .ref (x + 1)) (fun H h => ⟨_, h.1, rfl⟩) ?_
        refine mw_steps X 1 (pc' := 43) (lv' := [(0, .ref x), (1, .int (nI p))]) (st' := [.int (nI p), .ref (x + 1)]) rfl ?_
        refine mw_cV1r X kd_X3_closes kv_X3_closes kl_X4_155 (ci := 3) rfl rfl (Nat.le_of_ble_eq_true rfl) ⟨Nat.le_of_ble_eq_true rfl, Nat.le_of_ble_eq_true rfl⟩ ⟨Nat.le_of_ble_eq_true rfl, Nat.le_of_ble_eq_true rfl⟩ (fun q z => mx_sub ((fun _ z => z) q z)) (fun H h => ⟨⟨_, h.2.1.1⟩, h.lift0 (fun _ z => z) (have h := h.2.1; zw_close hb h hv hp)⟩) ?_
        have hq : op_close W (nI p) = (W (22 + p), mo_close W p) := by unfold op_close; rw [if_pos hbl, hmn, if_neg (by rintro (q | q); exact absurd q (Int32.not_lt.mpr (by have := mo_b_nz c18; rw [hop] at this; exact of_decide_eq_true this)); exact c32 q)]
        exact mw_iret X rfl rfl (fun H h => ⟨by rw [hq], by rw [hq]; exact h⟩)
      · refine mw_ldc X kk_X4_147 rfl ?_
        have hq : op_close W (nI p) = ((-1000000003), W) := by unfold op_close; rw [if_pos hbl, hmn, if_pos (by first | exact Or.inl (Int32.not_le.mp (by have := mo_b_z c18; rw [hop] at this; exact of_decide_eq_false this)) | exact Or.inr c32)]
        exact mw_iret X rfl rfl (fun H h => ⟨by rw [hq], by rw [hq]; exact h⟩)
  · refine mw_ldc X kk_X4_99 rfl ?_
    have hq : op_close W y = ((-1000000001), W) := by unfold op_close; rw [if_neg (by rw [mo_b_z c4]; decide)]
    exact mw_iret X rfl rfl (fun H h => ⟨by rw [hq], by rw [hq]; exact h⟩)
set_option maxHeartbeats 4000000 in
set_option maxRecDepth 20000 in
theorem zx_againN {l : Launch} {Γ : mw_C} {x : Nat} (hx : Γ.2.2.2 ≤ x) {W : Nat → Int32} {ρ : md_R} {H : Heap} {y : Int32} (hH : mx_I Γ x W ρ H) (hy : mo_bl y 2 = false) : mw_Cr l Γ mX4_again 4 0 0 (mx_A x) [.ref x, .int y] H (some (.int (op_again W y).1)) (mx_I Γ x (op_again W y).2 ρ) := by
  have hb : Γ.2.2.2 ≤ x + 1 := by omega
  have hq : op_again W y = (oU, W) := by unfold op_again; rw [hy, if_neg (by decide)]
  rw [hq]
  refine mw_ofG (P := pX4_again) (by decide) (mx_As hx) oX4_again (Nat.le_of_ble_eq_true rfl) ?_
  intro pg e0 sg mg below meth cd X hs
  refine mw_pre (I' := mx_I Γ x W ρ) (fun H1 h1 => by rw [h1]; exact hH) ?_
  refine mw_steps X 1 (pc' := 1) (lv' := [(0, .ref x), (1, .int y)]) (st' := [.int y]) rfl ?_
  refine mw_cS1r X kd_X4_isEnd ks_X4_isEnd kl_X4_95 rfl (Nat.le_of_ble_eq_true rfl) ⟨Nat.le_of_ble_eq_true rfl, Nat.le_of_ble_eq_true rfl⟩ ⟨Nat.le_of_ble_eq_true rfl, Nat.le_of_ble_eq_true rfl⟩ (fun _ h => h) (fun H h => zx_isEnd hx h) ?_
  refine mw_if_ne X 10 rfl rfl (fun c4 => absurd (by rw [hy]; rfl) c4) (fun c4 => ?_)
  refine mw_ldc X kk_X4_99 rfl ?_
  exact mw_iret X rfl rfl (fun H h => ⟨rfl, h⟩)
set_option maxHeartbeats 4000000 in
set_option maxRecDepth 20000 in
theorem zx_again0 {l : Launch} {Γ : mw_C} {x : Nat} (hx : Γ.2.2.2 ≤ x) {W : Nat → Int32} {ρ : md_R} {H : Heap} {c : Nat} (hH : mx_I Γ x W ρ H) (hv : iv c W) : mw_Cr l Γ mX4_again 4 0 0 (mx_A x) [.ref x, .int (nI 0)] H (some (.int (op_again W (nI 0)).1)) (mx_I Γ x (op_again W (nI 0)).2 ρ) := by
  have hb : Γ.2.2.2 ≤ x + 1 := by omega
  obtain ⟨cu, hcu5, hcu⟩ := ml_c2 hv
  have hop : op_again W (nI 0) = if W (20 + 0) < W (18 + 0) then (W (20 + 0), mo_goes W 0 (mo_n (W (2 + 0))) 0 (W (20 + 0))) else (oN, W) := by unfold op_again; rw [if_pos (mo_bl_n (show 0 < 2 by omega) (by omega)), ml_n (show 0 ≤ 100000 by omega)]
  have h20 := ml_goes_out (e := 0) (p := cu) (k := 0) (v := W 20) (j := 20) hv.1 hcu5 (by omega) (by omega) (by omega) (by omega)
  refine mw_ofG (P := pX4_again) (by decide) (mx_As hx) oX4_again (Nat.le_of_ble_eq_true rfl) ?_
  intro pg e0 sg mg below meth cd X hs
  refine mw_pre (I' := mx_I Γ x W ρ) (fun H1 h1 => by rw [h1]; exact hH) ?_
  refine mw_steps X 1 (pc' := 1) (lv' := [(0, .ref x), (1, .int (nI 0))]) (st' := [.int (nI 0)]) rfl ?_
  refine mw_cS1r X kd_X4_isEnd ks_X4_isEnd kl_X4_95 rfl (Nat.le_of_ble_eq_true rfl) ⟨Nat.le_of_ble_eq_true rfl, Nat.le_of_ble_eq_true rfl⟩ ⟨Nat.le_of_ble_eq_true rfl, Nat.le_of_ble_eq_true rfl⟩ (fun _ h => h) (fun H h => zx_isEnd hx h) ?_
  refine mw_if_ne X 10 rfl rfl (fun c4 => ?_) (fun c4 => absurd c4 (by decide))
  refine mw_steps X 1 (pc' := 11) (lv' := [(0, .ref x), (1, .int (nI 0))]) (st' := [.ref x]) rfl ?_
  refine mw_get X kf_X4_10.fl kc_4 rfl (v := .ref (x + 1)) (fun H h => ⟨_, h.1, rfl⟩) ?_
  refine mw_steps X 1 (pc' := 15) (lv' := [(0, .ref x), (1, .int (nI 0))]) (st' := [.int (nI 0), .ref (x + 1)]) rfl ?_
  refine mw_cV1r X kd_X3_endOf kv_X3_endOf kl_X4_100 (ci := 3) rfl rfl (Nat.le_of_ble_eq_true rfl) ⟨Nat.le_of_ble_eq_true rfl, Nat.le_of_ble_eq_true rfl⟩ ⟨Nat.le_of_ble_eq_true rfl, Nat.le_of_ble_eq_true rfl⟩ (fun q z => mx_sub ((fun _ z => z) q z)) (fun H h => ⟨⟨_, h.2.1.1⟩, h.lift0 (fun _ z => z) (have h := h.2.1; zw_endOf0 hb h)⟩) ?_
  refine mw_steps X 2 (pc' := 20) (lv' := [(2, .ref (x + 1 + 15)), (0, .ref x), (1, .int (nI 0))]) (st' := [.ref (x + 1 + 15)]) rfl ?_
  refine mw_get X kf_X4_113 kc_0 rfl (v := .int (W (20))) (fun H h => ⟨_, h.2.1.2.2.2.2.2.2.2.2.1, congrArg (fun z => some (Value.int z)) rfl⟩) ?_
  refine mw_steps X 1 (pc' := 24) (lv' := [(2, .ref (x + 1 + 15)), (0, .ref x), (1, .int (nI 0))]) (st' := [.ref (x + 1 + 15), .int (W (20))]) rfl ?_
  refine mw_get X kf_X4_104 kc_0 rfl (v := .int (W (18))) (fun H h => ⟨_, h.2.1.2.2.2.2.2.2.2.2.1, congrArg (fun z => some (Value.int z)) rfl⟩) ?_
  refine mw_icmp_lt X 33 rfl rfl (fun c27 => ?_) (fun c27 => ?_)
  · refine mw_steps X 1 (pc' := 34) (lv' := [(2, .ref (x + 1 + 15)), (0, .ref x), (1, .int (nI 0))]) (st' := [.ref x]) rfl ?_
    refine mw_get X kf_X4_10.fl kc_4 rfl (v := .ref (x + 1)) (fun H h => ⟨_, h.1, rfl⟩) ?_
    refine mw_steps X 2 (pc' := 39) (lv' := [(2, .ref (x + 1 + 15)), (0, .ref x), (1, .int (nI 0))]) (st' := [.ref (x + 1 + 15), .int (nI 0), .ref (x + 1)]) rfl ?_
    refine mw_get X kf_X4_50 kc_0 rfl (v := .int (nI cu)) (fun H h => ⟨_, h.2.1.2.2.2.2.2.2.2.2.1, congrArg (fun z => some (Value.int z)) hcu⟩) ?_
    refine mw_steps X 2 (pc' := 44) (lv' := [(2, .ref (x + 1 + 15)), (0, .ref x), (1, .int (nI 0))]) (st' := [.ref (x + 1 + 15), .int (nI 0), .int (nI cu), .int (nI 0), .ref (x + 1)]) rfl ?_
    refine mw_get X kf_X4_113 kc_0 rfl (v := .int (W (20))) (fun H h => ⟨_, h.2.1.2.2.2.2.2.2.2.2.1, congrArg (fun z => some (Value.int z)) rfl⟩) ?_
    refine mw_cV4v X kd_X3_writes kv_X3_writes kl_X4_158 (ci := 3) rfl rfl (Nat.le_of_ble_eq_true rfl) ⟨Nat.le_of_ble_eq_true rfl, Nat.le_of_ble_eq_true rfl⟩ ⟨Nat.le_of_ble_eq_true rfl, Nat.le_of_ble_eq_true rfl⟩ (fun q z => mx_sub ((fun _ z => z) q z)) (fun H h => ⟨⟨_, h.2.1.1⟩, h.lift0 (fun _ z => z) (have h := h.2.1; zw_goes0 hb h hv.1 hcu5 (by omega))⟩) ?_
    refine mw_steps X 1 (pc' := 51) (lv' := [(2, .ref (x + 1 + 15)), (0, .ref x), (1, .int (nI 0))]) (st' := [.ref (x + 1 + 15)]) rfl ?_
    refine mw_get X kf_X4_113 kc_0 rfl (v := .int (W 20)) (fun H h => ⟨_, h.2.1.2.2.2.2.2.2.2.2.1, congrArg (fun z => some (Value.int z)) h20⟩) ?_
    have hq : op_again W (nI 0) = (W 20, mo_goes W 0 cu 0 (W 20)) := by rw [hop, if_pos c27, show W (2 + 0) = nI cu from hcu, ml_n (by omega)]
    exact mw_iret X rfl rfl (fun H h => ⟨by rw [hq], by rw [hq]; exact h⟩)
  · refine mw_ldc X kk_X4_147 rfl ?_
    have hq : op_again W (nI 0) = ((-1000000003), W) := by rw [hop, if_neg c27]
    exact mw_iret X rfl rfl (fun H h => ⟨by rw [hq], by rw [hq]; exact h⟩)
set_option maxHeartbeats 4000000 in
set_option maxRecDepth 20000 in
theorem zx_again1 {l : Launch} {Γ : mw_C} {x : Nat} (hx : Γ.2.2.2 ≤ x) {W : Nat → Int32} {ρ : md_R} {H : Heap} {c : Nat} (hH : mx_I Γ x W ρ H) (hv : iv c W) : mw_Cr l Γ mX4_again 4 0 0 (mx_A x) [.ref x, .int (nI 1)] H (some (.int (op_again W (nI 1)).1)) (mx_I Γ x (op_again W (nI 1)).2 ρ) := by
  have hb : Γ.2.2.2 ≤ x + 1 := by omega
  obtain ⟨cu, hcu5, hcu⟩ := ml_c3 hv
  have hop : op_again W (nI 1) = if W (20 + 1) < W (18 + 1) then (W (20 + 1), mo_goes W 1 (mo_n (W (2 + 1))) 0 (W (20 + 1))) else (oN, W) := by unfold op_again; rw [if_pos (mo_bl_n (show 1 < 2 by omega) (by omega)), ml_n (show 1 ≤ 100000 by omega)]
  have h20 := ml_goes_out (e := 1) (p := cu) (k := 0) (v := W 21) (j := 21) hv.1 hcu5 (by omega) (by omega) (by omega) (by omega)
  refine mw_ofG (P := pX4_again) (by decide) (mx_As hx) oX4_again (Nat.le_of_ble_eq_true rfl) ?_
  intro pg e0 sg mg below meth cd X hs
  refine mw_pre (I' := mx_I Γ x W ρ) (fun H1 h1 => by rw [h1]; exact hH) ?_
  refine mw_steps X 1 (pc' := 1) (lv' := [(0, .ref x), (1, .int (nI 1))]) (st' := [.int (nI 1)]) rfl ?_
  refine mw_cS1r X kd_X4_isEnd ks_X4_isEnd kl_X4_95 rfl (Nat.le_of_ble_eq_true rfl) ⟨Nat.le_of_ble_eq_true rfl, Nat.le_of_ble_eq_true rfl⟩ ⟨Nat.le_of_ble_eq_true rfl, Nat.le_of_ble_eq_true rfl⟩ (fun _ h => h) (fun H h => zx_isEnd hx h) ?_
  refine mw_if_ne X 10 rfl rfl (fun c4 => ?_) (fun c4 => absurd c4 (by decide))
  refine mw_steps X 1 (pc' := 11) (lv' := [(0, .ref x), (1, .int (nI 1))]) (st' := [.ref x]) rfl ?_
  refine mw_get X kf_X4_10.fl kc_4 rfl (v := .ref (x + 1)) (fun H h => ⟨_, h.1, rfl⟩) ?_
  refine mw_steps X 1 (pc' := 15) (lv' := [(0, .ref x), (1, .int (nI 1))]) (st' := [.int (nI 1), .ref (x + 1)]) rfl ?_
  refine mw_cV1r X kd_X3_endOf kv_X3_endOf kl_X4_100 (ci := 3) rfl rfl (Nat.le_of_ble_eq_true rfl) ⟨Nat.le_of_ble_eq_true rfl, Nat.le_of_ble_eq_true rfl⟩ ⟨Nat.le_of_ble_eq_true rfl, Nat.le_of_ble_eq_true rfl⟩ (fun q z => mx_sub ((fun _ z => z) q z)) (fun H h => ⟨⟨_, h.2.1.1⟩, h.lift0 (fun _ z => z) (have h := h.2.1; zw_endOf1 hb h)⟩) ?_
  refine mw_steps X 2 (pc' := 20) (lv' := [(2, .ref (x + 1 + 20)), (0, .ref x), (1, .int (nI 1))]) (st' := [.ref (x + 1 + 20)]) rfl ?_
  refine mw_get X kf_X4_113 kc_0 rfl (v := .int (W (21))) (fun H h => ⟨_, h.2.1.2.2.2.2.2.2.2.2.2.2.2.1, congrArg (fun z => some (Value.int z)) rfl⟩) ?_
  refine mw_steps X 1 (pc' := 24) (lv' := [(2, .ref (x + 1 + 20)), (0, .ref x), (1, .int (nI 1))]) (st' := [.ref (x + 1 + 20), .int (W (21))]) rfl ?_
  refine mw_get X kf_X4_104 kc_0 rfl (v := .int (W (19))) (fun H h => ⟨_, h.2.1.2.2.2.2.2.2.2.2.2.2.2.1, congrArg (fun z => some (Value.int z)) rfl⟩) ?_
  refine mw_icmp_lt X 33 rfl rfl (fun c27 => ?_) (fun c27 => ?_)
  · refine mw_steps X 1 (pc' := 34) (lv' := [(2, .ref (x + 1 + 20)), (0, .ref x), (1, .int (nI 1))]) (st' := [.ref x]) rfl ?_
    refine mw_get X kf_X4_10.fl kc_4 rfl (v := .ref (x + 1)) (fun H h => ⟨_, h.1, rfl⟩) ?_
    refine mw_steps X 2 (pc' := 39) (lv' := [(2, .ref (x + 1 + 20)), (0, .ref x), (1, .int (nI 1))]) (st' := [.ref (x + 1 + 20), .int (nI 1), .ref (x + 1)]) rfl ?_
    refine mw_get X kf_X4_50 kc_0 rfl (v := .int (nI cu)) (fun H h => ⟨_, h.2.1.2.2.2.2.2.2.2.2.2.2.2.1, congrArg (fun z => some (Value.int z)) hcu⟩) ?_
    refine mw_steps X 2 (pc' := 44) (lv' := [(2, .ref (x + 1 + 20)), (0, .ref x), (1, .int (nI 1))]) (st' := [.ref (x + 1 + 20), .int (nI 0), .int (nI cu), .int (nI 1), .ref (x + 1)]) rfl ?_
    refine mw_get X kf_X4_113 kc_0 rfl (v := .int (W (21))) (fun H h => ⟨_, h.2.1.2.2.2.2.2.2.2.2.2.2.2.1, congrArg (fun z => some (Value.int z)) rfl⟩) ?_
    refine mw_cV4v X kd_X3_writes kv_X3_writes kl_X4_158 (ci := 3) rfl rfl (Nat.le_of_ble_eq_true rfl) ⟨Nat.le_of_ble_eq_true rfl, Nat.le_of_ble_eq_true rfl⟩ ⟨Nat.le_of_ble_eq_true rfl, Nat.le_of_ble_eq_true rfl⟩ (fun q z => mx_sub ((fun _ z => z) q z)) (fun H h => ⟨⟨_, h.2.1.1⟩, h.lift0 (fun _ z => z) (have h := h.2.1; zw_goes1 hb h hv.1 hcu5 (by omega))⟩) ?_
    refine mw_steps X 1 (pc' := 51) (lv' := [(2, .ref (x + 1 + 20)), (0, .ref x), (1, .int (nI 1))]) (st' := [.ref (x + 1 + 20)]) rfl ?_
    refine mw_get X kf_X4_113 kc_0 rfl (v := .int (W 21)) (fun H h => ⟨_, h.2.1.2.2.2.2.2.2.2.2.2.2.2.1, congrArg (fun z => some (Value.int z)) h20⟩) ?_
    have hq : op_again W (nI 1) = (W 21, mo_goes W 1 cu 0 (W 21)) := by rw [hop, if_pos c27, show W (2 + 1) = nI cu from hcu, ml_n (by omega)]
    exact mw_iret X rfl rfl (fun H h => ⟨by rw [hq], by rw [hq]; exact h⟩)
  · refine mw_ldc X kk_X4_147 rfl ?_
    have hq : op_again W (nI 1) = ((-1000000003), W) := by rw [hop, if_neg c27]
    exact mw_iret X rfl rfl (fun H h => ⟨by rw [hq], by rw [hq]; exact h⟩)
theorem zx_again {l : Launch} {Γ : mw_C} {x : Nat} (hx : Γ.2.2.2 ≤ x) {W : Nat → Int32} {ρ : md_R} {H : Heap} {c : Nat} {y : Int32} (hH : mx_I Γ x W ρ H) (hv : iv c W) : mw_Cr l Γ mX4_again 4 0 0 (mx_A x) [.ref x, .int y] H (some (.int (op_again W y).1)) (mx_I Γ x (op_again W y).2 ρ) := by
  cases hb : mo_bl y 2 with
  | false => exact zx_againN hx hH hb
  | true =>
    obtain ⟨j, hj, rfl⟩ := mo_bl_t hb (by omega)
    rcases (show j = 0 ∨ j = 1 by omega) with rfl | rfl
    · exact zx_again0 hx hH hv
    · exact zx_again1 hx hH hv
set_option maxHeartbeats 4000000 in
set_option maxRecDepth 20000 in
theorem zx_arrive {l : Launch} {Γ : mw_C} {x : Nat} (hx : Γ.2.2.2 ≤ x) {W : Nat → Int32} {ρ : md_R} {H : Heap} {c : Nat} {y : Int32} (hH : mx_I Γ x W ρ H) (hv : iv (c + 25) W) : mw_Cr l Γ mX4_arrive 7 0 0 (mx_A x) [.ref x, .int y] H (some (.int (op_arrive W y).1)) (mx_I Γ x (op_arrive W y).2 ρ) := by
  have hb : Γ.2.2.2 ≤ x + 1 := by omega
  obtain ⟨r, hr2, hr⟩ := hv.1.1
  have hrn : mo_n (W 11) = r := by rw [hr, ml_n (by omega)]
  refine mw_ofG (P := pX4_arrive) (by decide) (mx_As hx) oX4_arrive (Nat.le_of_ble_eq_true rfl) ?_
  intro pg e0 sg mg below meth cd X hs
  refine mw_pre (I' := mx_I Γ x W ρ) (fun H1 h1 => by rw [h1]; exact hH) ?_
  refine mw_steps X 1 (pc' := 1) (lv' := [(0, .ref x), (1, .int y)]) (st' := [.ref x]) rfl ?_
  refine mw_get X kf_X4_10.fl kc_4 rfl (v := .ref (x + 1)) (fun H h => ⟨_, h.1, rfl⟩) ?_
  refine mw_get X kf_X4_33 kc_3 rfl (v := .ref (x + 1 + 1)) (fun H h => ⟨_, h.2.1.1, rfl⟩) ?_
  refine mw_steps X 1 (pc' := 8) (lv' := [(0, .ref x), (1, .int y)]) (st' := [.int y, .ref (x + 1 + 1)]) rfl ?_
  refine mw_cV1r X kd_X2_hasRow kv_X2_hasRow kl_X4_162 (ci := 2) rfl rfl (Nat.le_of_ble_eq_true rfl) ⟨Nat.le_of_ble_eq_true rfl, Nat.le_of_ble_eq_true rfl⟩ ⟨Nat.le_of_ble_eq_true rfl, Nat.le_of_ble_eq_true rfl⟩ (fun q z => mx_sub ((ws_sub 1 (by omega)) q z)) (fun H h => ⟨(have h := h.2.1; h.o_road), h.lift0 (ws_sub 1 (by omega)) (have h := h.2.1; y1_hasRow hb h)⟩) ?_
  refine mw_top (y := mo_b (mo_bl y r)) (congrArg (fun z => mo_b (mo_bl y z)) hrn) ?_
  refine mw_if_ne X 17 rfl rfl (fun c11 => ?_) (fun c11 => ?_)
  · obtain ⟨k, hk, rfl⟩ := mo_bl_t (mo_b_nz c11) (by omega)
    have hmn : mo_n (nI k) = k := ml_n (by omega)
    have hbl := mo_bl_n hk (show r ≤ 100000 by omega)
    have hk2 : k < mo_n (W 11) := by rw [hrn]; exact hk
    refine mw_steps X 1 (pc' := 18) (lv' := [(0, .ref x), (1, .int (nI k))]) (st' := [.ref x]) rfl ?_
    refine mw_get X kf_X4_10.fl kc_4 rfl (v := .ref (x + 1)) (fun H h => ⟨_, h.1, rfl⟩) ?_
    refine mw_steps X 1 (pc' := 22) (lv' := [(0, .ref x), (1, .int (nI k))]) (st' := [.int (nI k), .ref (x + 1)]) rfl ?_
    refine mw_cV1r X kd_X3_delivers kv_X3_delivers kl_X4_165 (ci := 3) rfl rfl (Nat.le_of_ble_eq_true rfl) ⟨Nat.le_of_ble_eq_true rfl, Nat.le_of_ble_eq_true rfl⟩ ⟨Nat.le_of_ble_eq_true rfl, Nat.le_of_ble_eq_true rfl⟩ (fun q z => mx_sub ((fun _ z => z) q z)) (fun H h => ⟨⟨_, h.2.1.1⟩, h.lift0 (fun _ z => z) (have h := h.2.1; zw_arr hb h hv hk2)⟩) ?_
    have hq : op_arrive W (nI k) = (nI (mo_why W k), mo_arr W k) := by unfold op_arrive; rw [hrn, if_pos hbl, hmn]
    exact mw_iret X rfl rfl (fun H h => ⟨by rw [hq], by rw [hq]; exact h⟩)
  · refine mw_ldc X kk_X4_99 rfl ?_
    have hq : op_arrive W y = ((-1000000001), W) := by unfold op_arrive; rw [hrn, if_neg (by rw [mo_b_z c11]; decide)]
    exact mw_iret X rfl rfl (fun H h => ⟨by rw [hq], by rw [hq]; exact h⟩)
set_option maxHeartbeats 4000000 in
set_option maxRecDepth 20000 in
theorem zx_lose {l : Launch} {Γ : mw_C} {x : Nat} (hx : Γ.2.2.2 ≤ x) {W : Nat → Int32} {ρ : md_R} {H : Heap} {c : Nat} {y : Int32} (hH : mx_I Γ x W ρ H) (hv : iv c W) : mw_Cr l Γ mX4_lose 3 0 0 (mx_A x) [.ref x, .int y] H (some (.int (op_lose W y).1)) (mx_I Γ x (op_lose W y).2 ρ) := by
  have hb : Γ.2.2.2 ≤ x + 1 := by omega
  obtain ⟨r, hr2, hr⟩ := hv.1.1
  have hrn : mo_n (W 11) = r := by rw [hr, ml_n (by omega)]
  refine mw_ofG (P := pX4_lose) (by decide) (mx_As hx) oX4_lose (Nat.le_of_ble_eq_true rfl) ?_
  intro pg e0 sg mg below meth cd X hs
  refine mw_pre (I' := mx_I Γ x W ρ) (fun H1 h1 => by rw [h1]; exact hH) ?_
  refine mw_steps X 1 (pc' := 1) (lv' := [(0, .ref x), (1, .int y)]) (st' := [.ref x]) rfl ?_
  refine mw_get X kf_X4_10.fl kc_4 rfl (v := .ref (x + 1)) (fun H h => ⟨_, h.1, rfl⟩) ?_
  refine mw_get X kf_X4_33 kc_3 rfl (v := .ref (x + 1 + 1)) (fun H h => ⟨_, h.2.1.1, rfl⟩) ?_
  refine mw_steps X 1 (pc' := 8) (lv' := [(0, .ref x), (1, .int y)]) (st' := [.int y, .ref (x + 1 + 1)]) rfl ?_
  refine mw_cV1r X kd_X2_hasRow kv_X2_hasRow kl_X4_162 (ci := 2) rfl rfl (Nat.le_of_ble_eq_true rfl) ⟨Nat.le_of_ble_eq_true rfl, Nat.le_of_ble_eq_true rfl⟩ ⟨Nat.le_of_ble_eq_true rfl, Nat.le_of_ble_eq_true rfl⟩ (fun q z => mx_sub ((ws_sub 1 (by omega)) q z)) (fun H h => ⟨(have h := h.2.1; h.o_road), h.lift0 (ws_sub 1 (by omega)) (have h := h.2.1; y1_hasRow hb h)⟩) ?_
  refine mw_top (y := mo_b (mo_bl y r)) (congrArg (fun z => mo_b (mo_bl y z)) hrn) ?_
  refine mw_if_ne X 17 rfl rfl (fun c11 => ?_) (fun c11 => ?_)
  · obtain ⟨k, hk, rfl⟩ := mo_bl_t (mo_b_nz c11) (by omega)
    have hmn : mo_n (nI k) = k := ml_n (by omega)
    have hbl := mo_bl_n hk (show r ≤ 100000 by omega)
    have hk2 : k < mo_n (W 11) := by rw [hrn]; exact hk
    refine mw_steps X 1 (pc' := 18) (lv' := [(0, .ref x), (1, .int (nI k))]) (st' := [.ref x]) rfl ?_
    refine mw_get X kf_X4_10.fl kc_4 rfl (v := .ref (x + 1)) (fun H h => ⟨_, h.1, rfl⟩) ?_
    refine mw_steps X 1 (pc' := 22) (lv' := [(0, .ref x), (1, .int (nI k))]) (st' := [.int (nI k), .ref (x + 1)]) rfl ?_
    have hlr : mo_n (mo_lose W k 11) = r - 1 := by unfold mo_lose; rw [pk_un (by omega), ml_rmr_q hr (by omega), ml_n (by omega)]
    refine mw_cV1v X kd_X3_loses kv_X3_loses kl_X4_168 (ci := 3) rfl rfl (Nat.le_of_ble_eq_true rfl) ⟨Nat.le_of_ble_eq_true rfl, Nat.le_of_ble_eq_true rfl⟩ ⟨Nat.le_of_ble_eq_true rfl, Nat.le_of_ble_eq_true rfl⟩ (fun q z => mx_sub ((fun _ z => z) q z)) (fun H h => ⟨⟨_, h.2.1.1⟩, h.lift0 (fun _ z => z) (have h := h.2.1; zw_lose hb h hv hk2)⟩) ?_
    refine mw_steps X 1 (pc' := 26) (lv' := [(0, .ref x), (1, .int (nI k))]) (st' := [.ref x]) rfl ?_
    refine mw_get X kf_X4_10.fl kc_4 rfl (v := .ref (x + 1)) (fun H h => ⟨_, h.1, rfl⟩) ?_
    refine mw_get X kf_X4_33 kc_3 rfl (v := .ref (x + 1 + 1)) (fun H h => ⟨_, h.2.1.1, rfl⟩) ?_
    refine mw_cV0r X kd_X2_size kv_X2_size kl_X4_36 (ci := 2) rfl rfl (Nat.le_of_ble_eq_true rfl) ⟨Nat.le_of_ble_eq_true rfl, Nat.le_of_ble_eq_true rfl⟩ ⟨Nat.le_of_ble_eq_true rfl, Nat.le_of_ble_eq_true rfl⟩ (fun q z => mx_sub ((ws_sub 1 (by omega)) q z)) (fun H h => ⟨(have h := h.2.1; h.o_road), h.lift0 (ws_sub 1 (by omega)) (have h := h.2.1; y1_size hb h)⟩) ?_
    refine mw_top (y := nI (r - 1)) (congrArg nI hlr) ?_
    have hq : op_lose W (nI k) = (nI (r - 1), mo_lose W k) := by unfold op_lose; rw [hrn, if_pos hbl, hmn]
    exact mw_iret X rfl rfl (fun H h => ⟨by rw [hq], by rw [hq]; exact h⟩)
  · refine mw_ldc X kk_X4_99 rfl ?_
    have hq : op_lose W y = ((-1000000001), W) := by unfold op_lose; rw [hrn, if_neg (by rw [mo_b_z c11]; decide)]
    exact mw_iret X rfl rfl (fun H h => ⟨by rw [hq], by rw [hq]; exact h⟩)
set_option maxHeartbeats 4000000 in
set_option maxRecDepth 20000 in
theorem zx_twice {l : Launch} {Γ : mw_C} {x : Nat} (hx : Γ.2.2.2 ≤ x) {W : Nat → Int32} {ρ : md_R} {H : Heap} {c : Nat} {y : Int32} (hH : mx_I Γ x W ρ H) (hv : iv c W) : mw_Cr l Γ mX4_twice 2 0 0 (mx_A x) [.ref x, .int y] H (some (.int (op_twice W y).1)) (mx_I Γ x (op_twice W y).2 ρ) := by
  have hb : Γ.2.2.2 ≤ x + 1 := by omega
  obtain ⟨r, hr2, hr⟩ := hv.1.1
  have hrn : mo_n (W 11) = r := by rw [hr, ml_n (by omega)]
  refine mw_ofG (P := pX4_twice) (by decide) (mx_As hx) oX4_twice (Nat.le_of_ble_eq_true rfl) ?_
  intro pg e0 sg mg below meth cd X hs
  refine mw_pre (I' := mx_I Γ x W ρ) (fun H1 h1 => by rw [h1]; exact hH) ?_
  refine mw_steps X 1 (pc' := 1) (lv' := [(0, .ref x), (1, .int y)]) (st' := [.ref x]) rfl ?_
  refine mw_get X kf_X4_10.fl kc_4 rfl (v := .ref (x + 1)) (fun H h => ⟨_, h.1, rfl⟩) ?_
  refine mw_get X kf_X4_33 kc_3 rfl (v := .ref (x + 1 + 1)) (fun H h => ⟨_, h.2.1.1, rfl⟩) ?_
  refine mw_steps X 1 (pc' := 8) (lv' := [(0, .ref x), (1, .int y)]) (st' := [.int y, .ref (x + 1 + 1)]) rfl ?_
  refine mw_cV1r X kd_X2_hasRow kv_X2_hasRow kl_X4_162 (ci := 2) rfl rfl (Nat.le_of_ble_eq_true rfl) ⟨Nat.le_of_ble_eq_true rfl, Nat.le_of_ble_eq_true rfl⟩ ⟨Nat.le_of_ble_eq_true rfl, Nat.le_of_ble_eq_true rfl⟩ (fun q z => mx_sub ((ws_sub 1 (by omega)) q z)) (fun H h => ⟨(have h := h.2.1; h.o_road), h.lift0 (ws_sub 1 (by omega)) (have h := h.2.1; y1_hasRow hb h)⟩) ?_
  refine mw_top (y := mo_b (mo_bl y r)) (congrArg (fun z => mo_b (mo_bl y z)) hrn) ?_
  refine mw_if_ne X 17 rfl rfl (fun c11 => ?_) (fun c11 => ?_)
  · obtain ⟨k, hk, rfl⟩ := mo_bl_t (mo_b_nz c11) (by omega)
    have hmn : mo_n (nI k) = k := ml_n (by omega)
    have hbl := mo_bl_n hk (show r ≤ 100000 by omega)
    have hk2 : k < mo_n (W 11) := by rw [hrn]; exact hk
    refine mw_steps X 1 (pc' := 18) (lv' := [(0, .ref x), (1, .int (nI k))]) (st' := [.ref x]) rfl ?_
    refine mw_get X kf_X4_10.fl kc_4 rfl (v := .ref (x + 1)) (fun H h => ⟨_, h.1, rfl⟩) ?_
    refine mw_get X kf_X4_33 kc_3 rfl (v := .ref (x + 1 + 1)) (fun H h => ⟨_, h.2.1.1, rfl⟩) ?_
    refine mw_cV0r X kd_X2_isFull kv_X2_isFull kl_X4_171 (ci := 2) rfl rfl (Nat.le_of_ble_eq_true rfl) ⟨Nat.le_of_ble_eq_true rfl, Nat.le_of_ble_eq_true rfl⟩ ⟨Nat.le_of_ble_eq_true rfl, Nat.le_of_ble_eq_true rfl⟩ (fun q z => mx_sub ((ws_sub 1 (by omega)) q z)) (fun H h => ⟨(have h := h.2.1; h.o_road), h.lift0 (ws_sub 1 (by omega)) (have h := h.2.1; y1_isFull hb h)⟩) ?_
    refine mw_top (y := mo_b (decide (24 ≤ r))) (congrArg (fun z => mo_b (decide (24 ≤ z))) hrn) ?_
    refine mw_if_eq X 33 rfl rfl (fun c27 => ?_) (fun c27 => ?_)
    · have hr24 : ¬ 24 ≤ r := of_decide_eq_false (mo_b_z c27)
      refine mw_steps X 1 (pc' := 34) (lv' := [(0, .ref x), (1, .int (nI k))]) (st' := [.ref x]) rfl ?_
      refine mw_get X kf_X4_10.fl kc_4 rfl (v := .ref (x + 1)) (fun H h => ⟨_, h.1, rfl⟩) ?_
      refine mw_get X kf_X4_33 kc_3 rfl (v := .ref (x + 1 + 1)) (fun H h => ⟨_, h.2.1.1, rfl⟩) ?_
      refine mw_steps X 1 (pc' := 41) (lv' := [(0, .ref x), (1, .int (nI k))]) (st' := [.int (nI k), .ref (x + 1 + 1)]) rfl ?_
      refine mw_cV1v X kd_X2_repeat kv_X2_repeat kl_X4_175 (ci := 2) rfl rfl (Nat.le_of_ble_eq_true rfl) ⟨Nat.le_of_ble_eq_true rfl, Nat.le_of_ble_eq_true rfl⟩ ⟨Nat.le_of_ble_eq_true rfl, Nat.le_of_ble_eq_true rfl⟩ (fun q z => mx_sub ((ws_sub 1 (by omega)) q z)) (fun H h => ⟨(have h := h.2.1; h.o_road), h.lift0 (ws_sub 1 (by omega)) (have h := h.2.1; y1_repeat hb h (ml_i11 hv.1) (by rw [hrn]; omega) (by rw [hrn]; omega))⟩) ?_
      have hlr : mo_n (mo_twice W k 11) = r + 1 := by unfold mo_twice; rw [pk_us, hr, nI_add, ml_n (by omega)]
      refine mw_steps X 1 (pc' := 45) (lv' := [(0, .ref x), (1, .int (nI k))]) (st' := [.ref x]) rfl ?_
      refine mw_get X kf_X4_10.fl kc_4 rfl (v := .ref (x + 1)) (fun H h => ⟨_, h.1, rfl⟩) ?_
      refine mw_get X kf_X4_33 kc_3 rfl (v := .ref (x + 1 + 1)) (fun H h => ⟨_, h.2.1.1, rfl⟩) ?_
      refine mw_cV0r X kd_X2_size kv_X2_size kl_X4_36 (ci := 2) rfl rfl (Nat.le_of_ble_eq_true rfl) ⟨Nat.le_of_ble_eq_true rfl, Nat.le_of_ble_eq_true rfl⟩ ⟨Nat.le_of_ble_eq_true rfl, Nat.le_of_ble_eq_true rfl⟩ (fun q z => mx_sub ((ws_sub 1 (by omega)) q z)) (fun H h => ⟨(have h := h.2.1; h.o_road), h.lift0 (ws_sub 1 (by omega)) (have h := h.2.1; y1_size hb h)⟩) ?_
      refine mw_top (y := nI (r + 1)) (congrArg nI hlr) ?_
      have hq : op_twice W (nI k) = (nI (r + 1), mo_twice W k) := by unfold op_twice; rw [hrn, if_pos hbl, if_neg (show ¬ W 11 = nI 24 by rw [hr, nI_eq (by omega) (by omega)]; omega), hmn, hr, nI_add]
      exact mw_iret X rfl rfl (fun H h => ⟨by rw [hq], by rw [hq]; exact h⟩)
    · have hr24 : r = 24 := by have := of_decide_eq_true (mo_b_nz c27); omega
      refine mw_ldc X kk_X4_174 rfl ?_
      have hq : op_twice W (nI k) = ((-1000000004), W) := by unfold op_twice; rw [hrn, if_pos hbl, if_pos (show W 11 = nI 24 by rw [hr, hr24])]
      exact mw_iret X rfl rfl (fun H h => ⟨by rw [hq], by rw [hq]; exact h⟩)
  · refine mw_ldc X kk_X4_99 rfl ?_
    have hq : op_twice W y = ((-1000000001), W) := by unfold op_twice; rw [hrn, if_neg (by rw [mo_b_z c11]; decide)]
    exact mw_iret X rfl rfl (fun H h => ⟨by rw [hq], by rw [hq]; exact h⟩)
set_option maxHeartbeats 4000000 in
set_option maxRecDepth 20000 in
theorem zx_forge {l : Launch} {Γ : mw_C} {x : Nat} (hx : Γ.2.2.2 ≤ x) {W : Nat → Int32} {ρ : md_R} {H : Heap} {c : Nat} {y z u v t : Int32} (hH : mx_I Γ x W ρ H) (hv : iv c W) : mw_Cr l Γ mX4_forge 3 0 0 (mx_A x) [.ref x, .int y, .int z, .int u, .int v, .int t] H (some (.int (op_forge W y z u v t).1)) (mx_I Γ x (op_forge W y z u v t).2 ρ) := by
  have hb : Γ.2.2.2 ≤ x + 1 := by omega
  obtain ⟨r, hr2, hr⟩ := hv.1.1
  have hrn : mo_n (W 11) = r := by rw [hr, ml_n (by omega)]
  refine mw_ofG (P := pX4_forge) (by decide) (mx_As hx) oX4_forge (Nat.le_of_ble_eq_true rfl) ?_
  intro pg e0 sg mg below meth cd X hs
  refine mw_pre (I' := mx_I Γ x W ρ) (fun H1 h1 => by rw [h1]; exact hH) ?_
  refine mw_steps X 1 (pc' := 1) (lv' := [(0, .ref x), (1, .int y), (2, .int z), (3, .int u), (4, .int v), (5, .int t)]) (st' := [.int y]) rfl ?_
  refine mw_cS1r X kd_X4_isPlace ks_X4_isPlace kl_X4_122 rfl (Nat.le_of_ble_eq_true rfl) ⟨Nat.le_of_ble_eq_true rfl, Nat.le_of_ble_eq_true rfl⟩ ⟨Nat.le_of_ble_eq_true rfl, Nat.le_of_ble_eq_true rfl⟩ (fun _ h => h) (fun H h => zx_isPlace hx h) ?_
  refine mw_if_ne X 10 rfl rfl (fun c4 => ?_) (fun c4 => ?_)
  · refine mw_steps X 2 (pc' := 12) (lv' := [(0, .ref x), (1, .int y), (2, .int z), (3, .int u), (4, .int v), (5, .int t)]) (st' := [.int (-1), .int z]) rfl ?_
    refine mw_icmp_lt X 56 rfl rfl (fun c12 => ?_) (fun c12 => ?_)
    · refine mw_ldc X kk_X4_94 rfl ?_
      have hq : op_forge W y z u v t = ((-1000000002), W) := by unfold op_forge; rw [if_pos (mo_b_nz c4), if_neg (by unfold mo_good mo_bl; first | simp [Int32.not_le.mpr c12] | simp [ml_gt99 c18] | simp [Int32.not_le.mpr c22] | simp [ml_gtn (n := 9999) (by omega) c29] | simp [Int32.not_le.mpr c34] | simp [Int32.not_lt.mpr c41] | simp [Int32.not_le.mpr c46] | simp [ml_gtn (n := 99) (by omega) (Int32.not_le.mp c53)])]
      exact mw_iret X rfl rfl (fun H h => ⟨by rw [hq], by rw [hq]; exact h⟩)
    · refine mw_steps X 2 (pc' := 18) (lv' := [(0, .ref x), (1, .int y), (2, .int z), (3, .int u), (4, .int v), (5, .int t)]) (st' := [.int (nI 99), .int z]) rfl ?_
      refine mw_icmp_gt X 56 rfl rfl (fun c18 => ?_) (fun c18 => ?_)
      · refine mw_ldc X kk_X4_94 rfl ?_
        have hq : op_forge W y z u v t = ((-1000000002), W) := by unfold op_forge; rw [if_pos (mo_b_nz c4), if_neg (by unfold mo_good mo_bl; first | simp [Int32.not_le.mpr c12] | simp [ml_gt99 c18] | simp [Int32.not_le.mpr c22] | simp [ml_gtn (n := 9999) (by omega) c29] | simp [Int32.not_le.mpr c34] | simp [Int32.not_lt.mpr c41] | simp [Int32.not_le.mpr c46] | simp [ml_gtn (n := 99) (by omega) (Int32.not_le.mp c53)])]
        exact mw_iret X rfl rfl (fun H h => ⟨by rw [hq], by rw [hq]; exact h⟩)
      · refine mw_steps X 1 (pc' := 22) (lv' := [(0, .ref x), (1, .int y), (2, .int z), (3, .int u), (4, .int v), (5, .int t)]) (st' := [.int u]) rfl ?_
        refine mw_if_lt X 56 rfl rfl (fun c22 => ?_) (fun c22 => ?_)
        · refine mw_ldc X kk_X4_94 rfl ?_
          have hq : op_forge W y z u v t = ((-1000000002), W) := by unfold op_forge; rw [if_pos (mo_b_nz c4), if_neg (by unfold mo_good mo_bl; first | simp [Int32.not_le.mpr c12] | simp [ml_gt99 c18] | simp [Int32.not_le.mpr c22] | simp [ml_gtn (n := 9999) (by omega) c29] | simp [Int32.not_le.mpr c34] | simp [Int32.not_lt.mpr c41] | simp [Int32.not_le.mpr c46] | simp [ml_gtn (n := 99) (by omega) (Int32.not_le.mp c53)])]
          exact mw_iret X rfl rfl (fun H h => ⟨by rw [hq], by rw [hq]; exact h⟩)
        · refine mw_steps X 2 (pc' := 29) (lv' := [(0, .ref x), (1, .int y), (2, .int z), (3, .int u), (4, .int v), (5, .int t)]) (st' := [.int (nI 9999), .int u]) rfl ?_
          refine mw_icmp_gt X 56 rfl rfl (fun c29 => ?_) (fun c29 => ?_)
          · refine mw_ldc X kk_X4_94 rfl ?_
            have hq : op_forge W y z u v t = ((-1000000002), W) := by unfold op_forge; rw [if_pos (mo_b_nz c4), if_neg (by unfold mo_good mo_bl; first | simp [Int32.not_le.mpr c12] | simp [ml_gt99 c18] | simp [Int32.not_le.mpr c22] | simp [ml_gtn (n := 9999) (by omega) c29] | simp [Int32.not_le.mpr c34] | simp [Int32.not_lt.mpr c41] | simp [Int32.not_le.mpr c46] | simp [ml_gtn (n := 99) (by omega) (Int32.not_le.mp c53)])]
            exact mw_iret X rfl rfl (fun H h => ⟨by rw [hq], by rw [hq]; exact h⟩)
          · refine mw_steps X 1 (pc' := 34) (lv' := [(0, .ref x), (1, .int y), (2, .int z), (3, .int u), (4, .int v), (5, .int t)]) (st' := [.int v]) rfl ?_
            refine mw_if_lt X 56 rfl rfl (fun c34 => ?_) (fun c34 => ?_)
            · refine mw_ldc X kk_X4_94 rfl ?_
              have hq : op_forge W y z u v t = ((-1000000002), W) := by unfold op_forge; rw [if_pos (mo_b_nz c4), if_neg (by unfold mo_good mo_bl; first | simp [Int32.not_le.mpr c12] | simp [ml_gt99 c18] | simp [Int32.not_le.mpr c22] | simp [ml_gtn (n := 9999) (by omega) c29] | simp [Int32.not_le.mpr c34] | simp [Int32.not_lt.mpr c41] | simp [Int32.not_le.mpr c46] | simp [ml_gtn (n := 99) (by omega) (Int32.not_le.mp c53)])]
              exact mw_iret X rfl rfl (fun H h => ⟨by rw [hq], by rw [hq]; exact h⟩)
            · refine mw_steps X 2 (pc' := 41) (lv' := [(0, .ref x), (1, .int y), (2, .int z), (3, .int u), (4, .int v), (5, .int t)]) (st' := [.int (nI 6), .int v]) rfl ?_
              refine mw_icmp_ge X 56 rfl rfl (fun c41 => ?_) (fun c41 => ?_)
              · refine mw_ldc X kk_X4_94 rfl ?_
                have hq : op_forge W y z u v t = ((-1000000002), W) := by unfold op_forge; rw [if_pos (mo_b_nz c4), if_neg (by unfold mo_good mo_bl; first | simp [Int32.not_le.mpr c12] | simp [ml_gt99 c18] | simp [Int32.not_le.mpr c22] | simp [ml_gtn (n := 9999) (by omega) c29] | simp [Int32.not_le.mpr c34] | simp [Int32.not_lt.mpr c41] | simp [Int32.not_le.mpr c46] | simp [ml_gtn (n := 99) (by omega) (Int32.not_le.mp c53)])]
                exact mw_iret X rfl rfl (fun H h => ⟨by rw [hq], by rw [hq]; exact h⟩)
              · refine mw_steps X 1 (pc' := 46) (lv' := [(0, .ref x), (1, .int y), (2, .int z), (3, .int u), (4, .int v), (5, .int t)]) (st' := [.int t]) rfl ?_
                refine mw_if_lt X 56 rfl rfl (fun c46 => ?_) (fun c46 => ?_)
                · refine mw_ldc X kk_X4_94 rfl ?_
                  have hq : op_forge W y z u v t = ((-1000000002), W) := by unfold op_forge; rw [if_pos (mo_b_nz c4), if_neg (by unfold mo_good mo_bl; first | simp [Int32.not_le.mpr c12] | simp [ml_gt99 c18] | simp [Int32.not_le.mpr c22] | simp [ml_gtn (n := 9999) (by omega) c29] | simp [Int32.not_le.mpr c34] | simp [Int32.not_lt.mpr c41] | simp [Int32.not_le.mpr c46] | simp [ml_gtn (n := 99) (by omega) (Int32.not_le.mp c53)])]
                  exact mw_iret X rfl rfl (fun H h => ⟨by rw [hq], by rw [hq]; exact h⟩)
                · refine mw_steps X 2 (pc' := 53) (lv' := [(0, .ref x), (1, .int y), (2, .int z), (3, .int u), (4, .int v), (5, .int t)]) (st' := [.int (nI 99), .int t]) rfl ?_
                  refine mw_icmp_le X 59 rfl rfl (fun c53 => ?_) (fun c53 => ?_)
                  · refine mw_steps X 1 (pc' := 60) (lv' := [(0, .ref x), (1, .int y), (2, .int z), (3, .int u), (4, .int v), (5, .int t)]) (st' := [.ref x]) rfl ?_
                    refine mw_get X kf_X4_10.fl kc_4 rfl (v := .ref (x + 1)) (fun H h => ⟨_, h.1, rfl⟩) ?_
                    refine mw_get X kf_X4_33 kc_3 rfl (v := .ref (x + 1 + 1)) (fun H h => ⟨_, h.2.1.1, rfl⟩) ?_
                    refine mw_cV0r X kd_X2_isFull kv_X2_isFull kl_X4_171 (ci := 2) rfl rfl (Nat.le_of_ble_eq_true rfl) ⟨Nat.le_of_ble_eq_true rfl, Nat.le_of_ble_eq_true rfl⟩ ⟨Nat.le_of_ble_eq_true rfl, Nat.le_of_ble_eq_true rfl⟩ (fun q z => mx_sub ((ws_sub 1 (by omega)) q z)) (fun H h => ⟨(have h := h.2.1; h.o_road), h.lift0 (ws_sub 1 (by omega)) (have h := h.2.1; y1_isFull hb h)⟩) ?_
                    refine mw_top (y := mo_b (decide (24 ≤ r))) (congrArg (fun z => mo_b (decide (24 ≤ z))) hrn) ?_
                    refine mw_if_eq X 75 rfl rfl (fun c69 => ?_) (fun c69 => ?_)
                    · have hr24 : ¬ 24 ≤ r := of_decide_eq_false (mo_b_z c69)
                      refine mw_steps X 1 (pc' := 76) (lv' := [(0, .ref x), (1, .int y), (2, .int z), (3, .int u), (4, .int v), (5, .int t)]) (st' := [.ref x]) rfl ?_
                      refine mw_get X kf_X4_10.fl kc_4 rfl (v := .ref (x + 1)) (fun H h => ⟨_, h.1, rfl⟩) ?_
                      refine mw_get X kf_X4_33 kc_3 rfl (v := .ref (x + 1 + 1)) (fun H h => ⟨_, h.2.1.1, rfl⟩) ?_
                      refine mw_steps X 6 (pc' := 90) (lv' := [(0, .ref x), (1, .int y), (2, .int z), (3, .int u), (4, .int v), (5, .int t)]) (st' := [.int t, .int v, .int u, .int z, .int y, .int (nI 0), .ref (x + 1 + 1)]) rfl ?_
                      refine mw_cV6v X kd_X2_add kv_X2_add kl_X4_178 (ci := 2) rfl rfl (Nat.le_of_ble_eq_true rfl) ⟨Nat.le_of_ble_eq_true rfl, Nat.le_of_ble_eq_true rfl⟩ ⟨Nat.le_of_ble_eq_true rfl, Nat.le_of_ble_eq_true rfl⟩ (fun q z => mx_sub ((ws_sub 1 (by omega)) q z)) (fun H h => ⟨(have h := h.2.1; h.o_road), h.lift0 (ws_sub 1 (by omega)) (have h := h.2.1; y1_add hb h (ml_i11 hv.1) (by rw [hrn]; omega))⟩) ?_
                      have hlr : mo_n ((upd (mo_put W (327 + 6 * mo_n (W 11)) 6 (mo_r6 (nI 0) y z u v t)) 11 (W 11 + nI 1)) 11) = r + 1 := by rw [pk_us, hr, nI_add, ml_n (by omega)]
                      refine mw_steps X 1 (pc' := 94) (lv' := [(0, .ref x), (1, .int y), (2, .int z), (3, .int u), (4, .int v), (5, .int t)]) (st' := [.ref x]) rfl ?_
                      refine mw_get X kf_X4_10.fl kc_4 rfl (v := .ref (x + 1)) (fun H h => ⟨_, h.1, rfl⟩) ?_
                      refine mw_get X kf_X4_33 kc_3 rfl (v := .ref (x + 1 + 1)) (fun H h => ⟨_, h.2.1.1, rfl⟩) ?_
                      refine mw_cV0r X kd_X2_size kv_X2_size kl_X4_36 (ci := 2) rfl rfl (Nat.le_of_ble_eq_true rfl) ⟨Nat.le_of_ble_eq_true rfl, Nat.le_of_ble_eq_true rfl⟩ ⟨Nat.le_of_ble_eq_true rfl, Nat.le_of_ble_eq_true rfl⟩ (fun q z => mx_sub ((ws_sub 1 (by omega)) q z)) (fun H h => ⟨(have h := h.2.1; h.o_road), h.lift0 (ws_sub 1 (by omega)) (have h := h.2.1; y1_size hb h)⟩) ?_
                      refine mw_top (y := nI (r + 1)) (congrArg nI hlr) ?_
                      have hq : op_forge W y z u v t = (nI (r + 1), upd (mo_put W (327 + 6 * mo_n (W 11)) 6 (mo_r6 (nI 0) y z u v t)) 11 (W 11 + nI 1)) := by unfold op_forge mo_forge; rw [if_pos (mo_b_nz c4), if_pos (ml_goodC c12 c18 c22 c29 c34 c41 c46 c53), if_neg (show ¬ W 11 = nI 24 by rw [hr, nI_eq (by omega) (by omega)]; omega), hr, nI_add]
                      exact mw_iret X rfl rfl (fun H h => ⟨by rw [hq], by rw [hq]; exact h⟩)
                    · have hr24 : r = 24 := by have := of_decide_eq_true (mo_b_nz c69); omega
                      refine mw_ldc X kk_X4_174 rfl ?_
                      have hq : op_forge W y z u v t = ((-1000000004), W) := by unfold op_forge; rw [if_pos (mo_b_nz c4), if_pos (ml_goodC c12 c18 c22 c29 c34 c41 c46 c53), if_pos (show W 11 = nI 24 by rw [hr, hr24])]
                      exact mw_iret X rfl rfl (fun H h => ⟨by rw [hq], by rw [hq]; exact h⟩)
                  · refine mw_ldc X kk_X4_94 rfl ?_
                    have hq : op_forge W y z u v t = ((-1000000002), W) := by unfold op_forge; rw [if_pos (mo_b_nz c4), if_neg (by unfold mo_good mo_bl; first | simp [Int32.not_le.mpr c12] | simp [ml_gt99 c18] | simp [Int32.not_le.mpr c22] | simp [ml_gtn (n := 9999) (by omega) c29] | simp [Int32.not_le.mpr c34] | simp [Int32.not_lt.mpr c41] | simp [Int32.not_le.mpr c46] | simp [ml_gtn (n := 99) (by omega) (Int32.not_le.mp c53)])]
                    exact mw_iret X rfl rfl (fun H h => ⟨by rw [hq], by rw [hq]; exact h⟩)
  · refine mw_ldc X kk_X4_99 rfl ?_
    have hq : op_forge W y z u v t = ((-1000000001), W) := by unfold op_forge; rw [if_neg (by rw [mo_b_z c4]; decide)]
    exact mw_iret X rfl rfl (fun H h => ⟨by rw [hq], by rw [hq]; exact h⟩)
set_option maxHeartbeats 4000000 in
set_option maxRecDepth 20000 in
theorem zx_tick {l : Launch} {Γ : mw_C} {x : Nat} (hx : Γ.2.2.2 ≤ x) {W : Nat → Int32} {ρ : md_R} {H : Heap} {c : Nat} (hH : mx_I Γ x W ρ H) (hv : iv (c + 12) W) : mw_Cr l Γ mX4_tick 7 0 0 (mx_A x) [.ref x] H (some (.int (mo_tick W 13))) (mx_I Γ x (mo_tick W) ρ) := by
  have hb : Γ.2.2.2 ≤ x + 1 := by omega
  have hi := iv_tick hv
  refine mw_ofG (P := pX4_tick) (by decide) (mx_As hx) oX4_tick (Nat.le_of_ble_eq_true rfl) ?_
  intro pg e0 sg mg below meth cd X hs
  refine mw_pre (I' := mx_I Γ x W ρ) (fun H1 h1 => by rw [h1]; exact hH) ?_
  refine mw_steps X 1 (pc' := 1) (lv' := [(0, .ref x)]) (st' := [.ref x]) rfl ?_
  refine mw_get X kf_X4_10.fl kc_4 rfl (v := .ref (x + 1)) (fun H h => ⟨_, h.1, rfl⟩) ?_
  refine mw_cV0v X kd_X3_passes kv_X3_passes kl_X4_182 (ci := 3) rfl rfl (Nat.le_of_ble_eq_true rfl) ⟨Nat.le_of_ble_eq_true rfl, Nat.le_of_ble_eq_true rfl⟩ ⟨Nat.le_of_ble_eq_true rfl, Nat.le_of_ble_eq_true rfl⟩ (fun q z => mx_sub ((fun _ z => z) q z)) (fun H h => ⟨⟨_, h.2.1.1⟩, h.lift0 (fun _ z => z) (have h := h.2.1; zw_tick hb h hv)⟩) ?_
  refine mw_steps X 1 (pc' := 8) (lv' := [(0, .ref x)]) (st' := [.ref x]) rfl ?_
  refine mw_get X kf_X4_10.fl kc_4 rfl (v := .ref (x + 1)) (fun H h => ⟨_, h.1, rfl⟩) ?_
  refine mw_get X kf_X4_43 kc_3 rfl (v := .ref (x + 1 + 5)) (fun H h => ⟨_, h.2.1.1, rfl⟩) ?_
  refine mw_cV0r X kd_X2_size kv_X2_size kl_X4_36 (ci := 2) rfl rfl (Nat.le_of_ble_eq_true rfl) ⟨Nat.le_of_ble_eq_true rfl, Nat.le_of_ble_eq_true rfl⟩ ⟨Nat.le_of_ble_eq_true rfl, Nat.le_of_ble_eq_true rfl⟩ (fun q z => mx_sub ((ws_sub 5 (by omega)) q z)) (fun H h => ⟨(have h := h.2.1; h.o_asked), h.lift0 (ws_sub 5 (by omega)) (have h := h.2.1; y3_size hb h)⟩) ?_
  exact mw_iret X rfl rfl (fun H h => ⟨congrArg (fun z => some (Value.int z)) (ml_i13 hi.1).symm, h⟩)
set_option maxHeartbeats 4000000 in
set_option maxRecDepth 20000 in
theorem zx_write {l : Launch} {Γ : mw_C} {x : Nat} (hx : Γ.2.2.2 ≤ x) {W : Nat → Int32} {ρ : md_R} {H : Heap} {y z u : Int32} (hH : mx_I Γ x W ρ H) (hk : iv_k ρ) : mw_Cr l Γ mX4_write 2 0 0 (mx_A x) [.ref x, .int y, .int z, .int u] H (some (.int (op_write ρ y z u).1)) (mx_I Γ x W (op_write ρ y z u).2) := by
  have hb : Γ.2.2.2 ≤ x + 1 := by omega
  obtain ⟨n, hn2, hn, -⟩ := hk
  have hnn : mo_n ρ.2.2.2.2.2.2 = n := by rw [hn, ml_n (by omega)]
  refine mw_ofG (P := pX4_write) (by decide) (mx_As hx) oX4_write (Nat.le_of_ble_eq_true rfl) ?_
  intro pg e0 sg mg below meth cd X hs
  refine mw_pre (I' := mx_I Γ x W ρ) (fun H1 h1 => by rw [h1]; exact hH) ?_
  refine mw_steps X 1 (pc' := 1) (lv' := [(0, .ref x), (1, .int y), (2, .int z), (3, .int u)]) (st' := [.int y]) rfl ?_
  refine mw_cS1r X kd_X4_isEnd ks_X4_isEnd kl_X4_95 rfl (Nat.le_of_ble_eq_true rfl) ⟨Nat.le_of_ble_eq_true rfl, Nat.le_of_ble_eq_true rfl⟩ ⟨Nat.le_of_ble_eq_true rfl, Nat.le_of_ble_eq_true rfl⟩ (fun _ h => h) (fun H h => zx_isEnd hx h) ?_
  refine mw_if_ne X 10 rfl rfl (fun c4 => ?_) (fun c4 => ?_)
  · refine mw_steps X 1 (pc' := 11) (lv' := [(0, .ref x), (1, .int y), (2, .int z), (3, .int u)]) (st' := [.int z]) rfl ?_
    refine mw_if_lt X 29 rfl rfl (fun c11 => ?_) (fun c11 => ?_)
    · refine mw_ldc X kk_X4_94 rfl ?_
      have hq : op_write ρ y z u = ((-1000000002), ρ) := by unfold op_write; rw [if_pos (mo_b_nz c4), if_neg (by unfold mo_bl; first | simp [Int32.not_le.mpr c11] | simp [Int32.not_lt.mpr c17] | simp [Int32.not_le.mpr c21] | simp [ml_gtn (n := 1) (by omega) (Int32.not_le.mp c26)])]
      exact mw_iret X rfl rfl (fun H h => ⟨by rw [hq], by rw [hq]; exact h⟩)
    · refine mw_steps X 2 (pc' := 17) (lv' := [(0, .ref x), (1, .int y), (2, .int z), (3, .int u)]) (st' := [.int (nI 40), .int z]) rfl ?_
      refine mw_icmp_ge X 29 rfl rfl (fun c17 => ?_) (fun c17 => ?_)
      · refine mw_ldc X kk_X4_94 rfl ?_
        have hq : op_write ρ y z u = ((-1000000002), ρ) := by unfold op_write; rw [if_pos (mo_b_nz c4), if_neg (by unfold mo_bl; first | simp [Int32.not_le.mpr c11] | simp [Int32.not_lt.mpr c17] | simp [Int32.not_le.mpr c21] | simp [ml_gtn (n := 1) (by omega) (Int32.not_le.mp c26)])]
        exact mw_iret X rfl rfl (fun H h => ⟨by rw [hq], by rw [hq]; exact h⟩)
      · refine mw_steps X 1 (pc' := 21) (lv' := [(0, .ref x), (1, .int y), (2, .int z), (3, .int u)]) (st' := [.int u]) rfl ?_
        refine mw_if_lt X 29 rfl rfl (fun c21 => ?_) (fun c21 => ?_)
        · refine mw_ldc X kk_X4_94 rfl ?_
          have hq : op_write ρ y z u = ((-1000000002), ρ) := by unfold op_write; rw [if_pos (mo_b_nz c4), if_neg (by unfold mo_bl; first | simp [Int32.not_le.mpr c11] | simp [Int32.not_lt.mpr c17] | simp [Int32.not_le.mpr c21] | simp [ml_gtn (n := 1) (by omega) (Int32.not_le.mp c26)])]
          exact mw_iret X rfl rfl (fun H h => ⟨by rw [hq], by rw [hq]; exact h⟩)
        · refine mw_steps X 2 (pc' := 26) (lv' := [(0, .ref x), (1, .int y), (2, .int z), (3, .int u)]) (st' := [.int (nI 1), .int u]) rfl ?_
          refine mw_icmp_le X 32 rfl rfl (fun c26 => ?_) (fun c26 => ?_)
          · refine mw_steps X 1 (pc' := 33) (lv' := [(0, .ref x), (1, .int y), (2, .int z), (3, .int u)]) (st' := [.ref x]) rfl ?_
            refine mw_get X kf_X4_21.fl kc_4 rfl (v := .ref (x + 27)) (fun H h => ⟨_, h.1, rfl⟩) ?_
            refine mw_cV0r X kd_X2_isFull kv_X2_isFull kl_X4_171 (ci := 2) rfl rfl (Nat.le_of_ble_eq_true rfl) ⟨Nat.le_of_ble_eq_true rfl, Nat.le_of_ble_eq_true rfl⟩ ⟨Nat.le_of_ble_eq_true rfl, Nat.le_of_ble_eq_true rfl⟩ (fun q z => mx_subB z) (fun H h => ⟨h.o_book, xb_isFull hx h⟩) ?_
            refine mw_top (y := mo_b (decide (20 ≤ n))) (congrArg (fun z => mo_b (decide (20 ≤ z))) hnn) ?_
            refine mw_if_eq X 45 rfl rfl (fun c39 => ?_) (fun c39 => ?_)
            · have hn20 : ¬ 20 ≤ n := of_decide_eq_false (mo_b_z c39)
              refine mw_steps X 1 (pc' := 46) (lv' := [(0, .ref x), (1, .int y), (2, .int z), (3, .int u)]) (st' := [.ref x]) rfl ?_
              refine mw_get X kf_X4_21.fl kc_4 rfl (v := .ref (x + 27)) (fun H h => ⟨_, h.1, rfl⟩) ?_
              refine mw_steps X 6 (pc' := 55) (lv' := [(0, .ref x), (1, .int y), (2, .int z), (3, .int u)]) (st' := [.int (nI 0), .int (nI 0), .int (nI 0), .int u, .int z, .int y, .ref (x + 27)]) rfl ?_
              have hn1 : mo_n (ρ.2.2.2.2.2.2 + nI 1) = n + 1 := by rw [hn, nI_add, ml_n (by omega)]
              refine mw_cV6v X kd_X2_add kv_X2_add kl_X4_178 (ci := 2) rfl rfl (Nat.le_of_ble_eq_true rfl) ⟨Nat.le_of_ble_eq_true rfl, Nat.le_of_ble_eq_true rfl⟩ ⟨Nat.le_of_ble_eq_true rfl, Nat.le_of_ble_eq_true rfl⟩ (fun q z => mx_subB z) (fun H h => ⟨h.o_book, xb_add hx h hn (by omega)⟩) ?_
              refine mw_steps X 1 (pc' := 59) (lv' := [(0, .ref x), (1, .int y), (2, .int z), (3, .int u)]) (st' := [.ref x]) rfl ?_
              refine mw_get X kf_X4_21.fl kc_4 rfl (v := .ref (x + 27)) (fun H h => ⟨_, h.1, rfl⟩) ?_
              refine mw_cV0r X kd_X2_size kv_X2_size kl_X4_36 (ci := 2) rfl rfl (Nat.le_of_ble_eq_true rfl) ⟨Nat.le_of_ble_eq_true rfl, Nat.le_of_ble_eq_true rfl⟩ ⟨Nat.le_of_ble_eq_true rfl, Nat.le_of_ble_eq_true rfl⟩ (fun q z => mx_subB z) (fun H h => ⟨h.o_book, xb_size hx h⟩) ?_
              refine mw_top (y := nI (n + 1)) (congrArg nI hn1) ?_
              have hq : op_write ρ y z u = (nI (n + 1), (ρ.1, ρ.2.1, ρ.2.2.1, upd ρ.2.2.2.1 (mo_n ρ.2.2.2.2.2.2) y, upd ρ.2.2.2.2.1 (mo_n ρ.2.2.2.2.2.2) z, upd ρ.2.2.2.2.2.1 (mo_n ρ.2.2.2.2.2.2) u, ρ.2.2.2.2.2.2 + nI 1)) := by unfold op_write; rw [if_pos (mo_b_nz c4), if_pos (show mo_bl z 40 = true ∧ mo_bl u 2 = true from ⟨by unfold mo_bl; rw [decide_eq_true (Int32.not_lt.mp c11), decide_eq_true (Int32.not_le.mp c17)]; rfl, by unfold mo_bl; rw [decide_eq_true (Int32.not_lt.mp c21), decide_eq_true (ml_le1 c26)]; rfl⟩), if_neg (by rw [hn, nI_eq (by omega) (by omega)]; omega)]; rw [show nI (n + 1) = ρ.2.2.2.2.2.2 + nI 1 by rw [hn, nI_add]]
              exact mw_iret X rfl rfl (fun H h => ⟨by rw [hq], by rw [hq]; exact h⟩)
            · have hn20 : n = 20 := by have := of_decide_eq_true (mo_b_nz c39); omega
              refine mw_ldc X kk_X4_174 rfl ?_
              have hq : op_write ρ y z u = ((-1000000004), ρ) := by unfold op_write; rw [if_pos (mo_b_nz c4), if_pos (show mo_bl z 40 = true ∧ mo_bl u 2 = true from ⟨by unfold mo_bl; rw [decide_eq_true (Int32.not_lt.mp c11), decide_eq_true (Int32.not_le.mp c17)]; rfl, by unfold mo_bl; rw [decide_eq_true (Int32.not_lt.mp c21), decide_eq_true (ml_le1 c26)]; rfl⟩), if_pos (by rw [hn, hn20])]
              exact mw_iret X rfl rfl (fun H h => ⟨by rw [hq], by rw [hq]; exact h⟩)
          · refine mw_ldc X kk_X4_94 rfl ?_
            have hq : op_write ρ y z u = ((-1000000002), ρ) := by unfold op_write; rw [if_pos (mo_b_nz c4), if_neg (by unfold mo_bl; first | simp [Int32.not_le.mpr c11] | simp [Int32.not_lt.mpr c17] | simp [Int32.not_le.mpr c21] | simp [ml_gtn (n := 1) (by omega) (Int32.not_le.mp c26)])]
            exact mw_iret X rfl rfl (fun H h => ⟨by rw [hq], by rw [hq]; exact h⟩)
  · refine mw_ldc X kk_X4_99 rfl ?_
    have hq : op_write ρ y z u = ((-1000000001), ρ) := by unfold op_write; rw [if_neg (by rw [mo_b_z c4]; decide)]
    exact mw_iret X rfl rfl (fun H h => ⟨by rw [hq], by rw [hq]; exact h⟩)
set_option maxHeartbeats 4000000 in
set_option maxRecDepth 20000 in
theorem zx_tear {l : Launch} {Γ : mw_C} {x : Nat} (hx : Γ.2.2.2 ≤ x) {W : Nat → Int32} {ρ : md_R} {H : Heap}  (hH : mx_I Γ x W ρ H) (hk : iv_k ρ) : mw_Cr l Γ mX4_tear 2 0 0 (mx_A x) [.ref x] H (some (.int (op_tear ρ).1)) (mx_I Γ x W (op_tear ρ).2) := by
  have hb : Γ.2.2.2 ≤ x + 1 := by omega
  obtain ⟨n, hn2, hn, -⟩ := hk
  have hnn : mo_n ρ.2.2.2.2.2.2 = n := by rw [hn, ml_n (by omega)]
  refine mw_ofG (P := pX4_tear) (by decide) (mx_As hx) oX4_tear (Nat.le_of_ble_eq_true rfl) ?_
  intro pg e0 sg mg below meth cd X hs
  refine mw_pre (I' := mx_I Γ x W ρ) (fun H1 h1 => by rw [h1]; exact hH) ?_
  refine mw_steps X 1 (pc' := 1) (lv' := [(0, .ref x)]) (st' := [.ref x]) rfl ?_
  refine mw_get X kf_X4_21.fl kc_4 rfl (v := .ref (x + 27)) (fun H h => ⟨_, h.1, rfl⟩) ?_
  refine mw_cV0r X kd_X2_size kv_X2_size kl_X4_36 (ci := 2) rfl rfl (Nat.le_of_ble_eq_true rfl) ⟨Nat.le_of_ble_eq_true rfl, Nat.le_of_ble_eq_true rfl⟩ ⟨Nat.le_of_ble_eq_true rfl, Nat.le_of_ble_eq_true rfl⟩ (fun q z => mx_subB z) (fun H h => ⟨h.o_book, xb_size hx h⟩) ?_
  refine mw_top (y := nI n) (congrArg nI hnn) ?_
  refine mw_steps X 2 (pc' := 9) (lv' := [(1, .int (nI n)), (0, .ref x)]) (st' := [.ref x]) rfl ?_
  refine mw_get X kf_X4_21.fl kc_4 rfl (v := .ref (x + 27)) (fun H h => ⟨_, h.1, rfl⟩) ?_
  refine mw_cV0v X kd_X2_empty kv_X2_empty kl_X4_188 (ci := 2) rfl rfl (Nat.le_of_ble_eq_true rfl) ⟨Nat.le_of_ble_eq_true rfl, Nat.le_of_ble_eq_true rfl⟩ ⟨Nat.le_of_ble_eq_true rfl, Nat.le_of_ble_eq_true rfl⟩ (fun q z => mx_subB z) (fun H h => ⟨h.o_book, xb_empty hx h⟩) ?_
  refine mw_steps X 1 (pc' := 16) (lv' := [(1, .int (nI n)), (0, .ref x)]) (st' := [.int (nI n)]) rfl ?_
  exact mw_iret X rfl rfl (fun H h => ⟨congrArg (fun z => some (Value.int z)) hn.symm, h⟩)
set_option maxHeartbeats 4000000 in
set_option maxRecDepth 20000 in
theorem zx_seed {l : Launch} {Γ : mw_C} {x : Nat} (hx : Γ.2.2.2 ≤ x) {W : Nat → Int32} {ρ : md_R} {H : Heap} {y : Int32} (hH : mx_I Γ x W ρ H)  : mw_Cr l Γ mX4_seed 1 0 0 (mx_A x) [.ref x, .int y] H (some (.int (op_seed ρ y).1)) (mx_I Γ x W (op_seed ρ y).2) := by
  have hb : Γ.2.2.2 ≤ x + 1 := by omega
  refine mw_ofG (P := pX4_seed) (by decide) (mx_As hx) oX4_seed (Nat.le_of_ble_eq_true rfl) ?_
  intro pg e0 sg mg below meth cd X hs
  refine mw_pre (I' := mx_I Γ x W ρ) (fun H1 h1 => by rw [h1]; exact hH) ?_
  refine mw_steps X 1 (pc' := 1) (lv' := [(0, .ref x), (1, .int y)]) (st' := [.int y]) rfl ?_
  refine mw_if_ge X 7 rfl rfl (fun c1 => ?_) (fun c1 => ?_)
  · refine mw_steps X 1 (pc' := 8) (lv' := [(0, .ref x), (1, .int y)]) (st' := [.ref x]) rfl ?_
    refine mw_get X kf_X4_10.fl kc_4 rfl (v := .ref (x + 1)) (fun H h => ⟨_, h.1, rfl⟩) ?_
    refine mw_get X kf_X4_91 kc_3 rfl (v := .int ρ.2.1) (fun H h => ⟨_, h.2.1.1, rfl⟩) ?_
    refine mw_steps X 2 (pc' := 16) (lv' := [(2, .int ρ.2.1), (0, .ref x), (1, .int y)]) (st' := [.ref x]) rfl ?_
    refine mw_get X kf_X4_10.fl kc_4 rfl (v := .ref (x + 1)) (fun H h => ⟨_, h.1, rfl⟩) ?_
    refine mw_steps X 1 (pc' := 20) (lv' := [(2, .int ρ.2.1), (0, .ref x), (1, .int y)]) (st' := [.int y, .ref (x + 1)]) rfl ?_
    refine mw_put X kf_X4_91 kc_3 ⟨_, _, _, .int, rfl, rfl, by decide, rfl, rfl⟩ rfl (I1 := mx_I Γ x W (ρ.1, y, ρ.2.2.1, ρ.2.2.2.1, ρ.2.2.2.2.1, ρ.2.2.2.2.2.1, ρ.2.2.2.2.2.2)) (fun H h => ⟨(mx_sub ws_Ab), _, h.2.1.1, Nat.le_of_ble_eq_true rfl, fun H1 o c => h.one o ws_Ab (h.2.1.ssd o c)⟩) ?_
    refine mw_steps X 1 (pc' := 24) (lv' := [(2, .int ρ.2.1), (0, .ref x), (1, .int y)]) (st' := [.int ρ.2.1]) rfl ?_
    have hq : op_seed ρ y = (ρ.2.1, (ρ.1, y, ρ.2.2.1, ρ.2.2.2.1, ρ.2.2.2.2.1, ρ.2.2.2.2.2.1, ρ.2.2.2.2.2.2)) := by unfold op_seed; rw [if_pos c1]
    exact mw_iret X rfl rfl (fun H h => ⟨by rw [hq], by rw [hq]; exact h⟩)
  · refine mw_ldc X kk_X4_94 rfl ?_
    have hq : op_seed ρ y = ((-1000000002), ρ) := by unfold op_seed; rw [if_neg c1]
    exact mw_iret X rfl rfl (fun H h => ⟨by rw [hq], by rw [hq]; exact h⟩)
