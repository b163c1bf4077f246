set_option maxHeartbeats 4000000 in
set_option maxRecDepth 20000 in
theorem ze_confirm0 {l : Launch} {Γ : mw_C} {b : Nat} (hb : Γ.2.2.2 ≤ b) {W : Nat → Int32} {sd : Int32} {H : Heap} {x : Int32} (hH : ws_I Γ b W sd H)  : mw_Cr l Γ mX0_confirm 2 0 0 (ws_A b) [.ref (b + 15), .int x] H none (ws_I Γ b (mo_confirm W 0 x) sd) := by
  refine mw_ofG (P := pX0_confirm) (by decide) (ws_As hb) oX0_confirm (Nat.le_of_ble_eq_true rfl) ?_
  intro pg e0 sg mg below meth cd X hs
  refine mw_pre (I' := ws_I Γ b W sd) (fun H1 h1 => by rw [h1]; exact hH) ?_
  refine mw_steps X 2 (pc' := 2) (lv' := [(0, .ref (b + 15)), (1, .int x)]) (st' := [.ref (b + 15), .ref (b + 15)]) rfl ?_
  refine mw_get X kf_X0_28.fl kc_0 rfl (v := .int (W (20))) (fun H h => ⟨_, h.2.2.2.2.2.2.2.2.1, congrArg (fun z => some (Value.int z)) rfl⟩) ?_
  refine mw_steps X 1 (pc' := 6) (lv' := [(0, .ref (b + 15)), (1, .int x)]) (st' := [.int x, .int (W (20)), .ref (b + 15)]) rfl ?_
  refine mw_mmax X kl_X0_31 ks_J9_max_7cf53 k_inJ9 kd_J9_max_7cf53.1 rfl (Nat.le_of_ble_eq_true rfl) (Nat.le_of_ble_eq_true rfl) ⟨Nat.le_of_ble_eq_true rfl, Nat.le_of_ble_eq_true rfl⟩ ?_
  refine mw_put X kf_X0_28.fl kc_0 ⟨_, _, _, .int, rfl, rfl, by decide, rfl, rfl⟩ rfl (I1 := ws_I Γ b (upd W (20) (if W (20) < x then x else W (20))) sd) (fun H h => ⟨ws_A0 (by omega), _, h.2.2.2.2.2.2.2.2.1, Nat.le_of_ble_eq_true rfl, fun H1 o c => h.s20 o c⟩) ?_
  exact mw_vret X rfl rfl (fun H h => ⟨rfl, by rw [show mo_confirm W 0 x = upd W (20) (if W (20) < x then x else W (20)) from by rfl]; exact h⟩)
set_option maxHeartbeats 4000000 in
set_option maxRecDepth 20000 in
theorem ze_hasAll0 {l : Launch} {Γ : mw_C} {b : Nat} (hb : Γ.2.2.2 ≤ b) {W : Nat → Int32} {sd : Int32} {H : Heap} {c : Nat} (hH : ws_I Γ b W sd H) (hv : iv c W) : mw_Cr l Γ mX0_hasAllOf 3 0 0 (ws_A b) [.ref (b + 15), .ref (b + 20)] H (some (.int (mo_b (mo_ha W 0)))) (ws_I Γ b W sd) := by
  obtain ⟨⟨n, hn2, hn⟩, -⟩ := hv.2.2.2.2.2.2.2.1 1 (by omega)
  have hr := ml_row_le W 0
  have hha : mo_ha W 0 = decide (n ≤ mo_row W 0) := by unfold mo_ha; rw [show W (19 - 0) = nI n from hn, ml_n (by omega)]
  refine mw_ofG (P := pX0_hasAllOf) (by decide) (ws_As hb) oX0_hasAllOf (Nat.le_of_ble_eq_true rfl) ?_
  intro pg e0 sg mg below meth cd X hs
  refine mw_pre (I' := ws_I Γ b W sd) (fun H1 h1 => by rw [h1]; exact hH) ?_
  refine mw_steps X 1 (pc' := 1) (lv' := [(0, .ref (b + 15)), (1, .ref (b + 20))]) (st' := [.ref (b + 15)]) rfl ?_
  refine mw_get X kf_X0_14.fl kc_0 rfl (v := .ref (b + 16)) (fun H h => ⟨_, h.2.2.2.2.2.2.2.2.1, rfl⟩) ?_
  refine mw_cV0r X kd_X1_inRow kv_X1_inRow kl_X0_40 (ci := 1) rfl rfl (Nat.le_of_ble_eq_true rfl) ⟨Nat.le_of_ble_eq_true rfl, Nat.le_of_ble_eq_true rfl⟩ ⟨Nat.le_of_ble_eq_true rfl, Nat.le_of_ble_eq_true rfl⟩ (ws_sub 16 (by omega)) (fun H h => ⟨h.o_words0, y9_inRow hb h⟩) ?_
  refine mw_steps X 1 (pc' := 8) (lv' := [(0, .ref (b + 15)), (1, .ref (b + 20))]) (st' := [.ref (b + 20), .int (nI (mo_row W 0))]) rfl ?_
  refine mw_get X kf_X0_44.fl kc_0 rfl (v := .int (nI n)) (fun H h => ⟨_, h.2.2.2.2.2.2.2.2.2.2.2.1, congrArg (fun z => some (Value.int z)) hn⟩) ?_
  refine mw_icmp_lt X 18 rfl rfl (fun c11 => ?_) (fun c11 => ?_)
  · refine mw_steps X 1 (pc' := 19) (lv' := [(0, .ref (b + 15)), (1, .ref (b + 20))]) (st' := [.int (nI 0)]) rfl ?_
    exact mw_zret X rfl (by decide) rfl (fun H h => ⟨by rw [show mo_ha W 0 = false from (hha.trans (decide_eq_false (by rw [nI_ltI (by omega) (by omega)] at c11; omega)))]; rfl, h⟩)
  · refine mw_steps X 2 (pc' := 19) (lv' := [(0, .ref (b + 15)), (1, .ref (b + 20))]) (st' := [.int (nI 1)]) rfl ?_
    exact mw_zret X rfl (by decide) rfl (fun H h => ⟨by rw [show mo_ha W 0 = true from (hha.trans (decide_eq_true (by rw [nI_ltI (by omega) (by omega)] at c11; omega)))]; rfl, h⟩)
set_option maxHeartbeats 4000000 in
set_option maxRecDepth 20000 in
theorem ze_confirm1 {l : Launch} {Γ : mw_C} {b : Nat} (hb : Γ.2.2.2 ≤ b) {W : Nat → Int32} {sd : Int32} {H : Heap} {x : Int32} (hH : ws_I Γ b W sd H)  : mw_Cr l Γ mX0_confirm 2 0 0 (ws_A b) [.ref (b + 20), .int x] H none (ws_I Γ b (mo_confirm W 1 x) sd) := by
  refine mw_ofG (P := pX0_confirm) (by decide) (ws_As hb) oX0_confirm (Nat.le_of_ble_eq_true rfl) ?_
  intro pg e0 sg mg below meth cd X hs
  refine mw_pre (I' := ws_I Γ b W sd) (fun H1 h1 => by rw [h1]; exact hH) ?_
  refine mw_steps X 2 (pc' := 2) (lv' := [(0, .ref (b + 20)), (1, .int x)]) (st' := [.ref (b + 20), .ref (b + 20)]) rfl ?_
  refine mw_get X kf_X0_28.fl kc_0 rfl (v := .int (W (21))) (fun H h => ⟨_, h.2.2.2.2.2.2.2.2.2.2.2.1, congrArg (fun z => some (Value.int z)) rfl⟩) ?_
  refine mw_steps X 1 (pc' := 6) (lv' := [(0, .ref (b + 20)), (1, .int x)]) (st' := [.int x, .int (W (21)), .ref (b + 20)]) rfl ?_
  refine mw_mmax X kl_X0_31 ks_J9_max_7cf53 k_inJ9 kd_J9_max_7cf53.1 rfl (Nat.le_of_ble_eq_true rfl) (Nat.le_of_ble_eq_true rfl) ⟨Nat.le_of_ble_eq_true rfl, Nat.le_of_ble_eq_true rfl⟩ ?_
  refine mw_put X kf_X0_28.fl kc_0 ⟨_, _, _, .int, rfl, rfl, by decide, rfl, rfl⟩ rfl (I1 := ws_I Γ b (upd W (21) (if W (21) < x then x else W (21))) sd) (fun H h => ⟨ws_A0 (by omega), _, h.2.2.2.2.2.2.2.2.2.2.2.1, Nat.le_of_ble_eq_true rfl, fun H1 o c => h.s21 o c⟩) ?_
  exact mw_vret X rfl rfl (fun H h => ⟨rfl, by rw [show mo_confirm W 1 x = upd W (21) (if W (21) < x then x else W (21)) from by rfl]; exact h⟩)
set_option maxHeartbeats 4000000 in
set_option maxRecDepth 20000 in
theorem ze_hasAll1 {l : Launch} {Γ : mw_C} {b : Nat} (hb : Γ.2.2.2 ≤ b) {W : Nat → Int32} {sd : Int32} {H : Heap} {c : Nat} (hH : ws_I Γ b W sd H) (hv : iv c W) : mw_Cr l Γ mX0_hasAllOf 3 0 0 (ws_A b) [.ref (b + 20), .ref (b + 15)] H (some (.int (mo_b (mo_ha W 1)))) (ws_I Γ b W sd) := by
  obtain ⟨⟨n, hn2, hn⟩, -⟩ := hv.2.2.2.2.2.2.2.1 0 (by omega)
  have hr := ml_row_le W 1
  have hha : mo_ha W 1 = decide (n ≤ mo_row W 1) := by unfold mo_ha; rw [show W (19 - 1) = nI n from hn, ml_n (by omega)]
  refine mw_ofG (P := pX0_hasAllOf) (by decide) (ws_As hb) oX0_hasAllOf (Nat.le_of_ble_eq_true rfl) ?_
  intro pg e0 sg mg below meth cd X hs
  refine mw_pre (I' := ws_I Γ b W sd) (fun H1 h1 => by rw [h1]; exact hH) ?_
  refine mw_steps X 1 (pc' := 1) (lv' := [(0, .ref (b + 20)), (1, .ref (b + 15))]) (st' := [.ref (b + 20)]) rfl ?_
  refine mw_get X kf_X0_14.fl kc_0 rfl (v := .ref (b + 21)) (fun H h => ⟨_, h.2.2.2.2.2.2.2.2.2.2.2.1, rfl⟩) ?_
  refine mw_cV0r X kd_X1_inRow kv_X1_inRow kl_X0_40 (ci := 1) rfl rfl (Nat.le_of_ble_eq_true rfl) ⟨Nat.le_of_ble_eq_true rfl, Nat.le_of_ble_eq_true rfl⟩ ⟨Nat.le_of_ble_eq_true rfl, Nat.le_of_ble_eq_true rfl⟩ (ws_sub 21 (by omega)) (fun H h => ⟨h.o_words1, y12_inRow hb h⟩) ?_
  refine mw_steps X 1 (pc' := 8) (lv' := [(0, .ref (b + 20)), (1, .ref (b + 15))]) (st' := [.ref (b + 15), .int (nI (mo_row W 1))]) rfl ?_
  refine mw_get X kf_X0_44.fl kc_0 rfl (v := .int (nI n)) (fun H h => ⟨_, h.2.2.2.2.2.2.2.2.1, congrArg (fun z => some (Value.int z)) hn⟩) ?_
  refine mw_icmp_lt X 18 rfl rfl (fun c11 => ?_) (fun c11 => ?_)
  · refine mw_steps X 1 (pc' := 19) (lv' := [(0, .ref (b + 20)), (1, .ref (b + 15))]) (st' := [.int (nI 0)]) rfl ?_
    exact mw_zret X rfl (by decide) rfl (fun H h => ⟨by rw [show mo_ha W 1 = false from (hha.trans (decide_eq_false (by rw [nI_ltI (by omega) (by omega)] at c11; omega)))]; rfl, h⟩)
  · refine mw_steps X 2 (pc' := 19) (lv' := [(0, .ref (b + 20)), (1, .ref (b + 15))]) (st' := [.int (nI 1)]) rfl ?_
    exact mw_zret X rfl (by decide) rfl (fun H h => ⟨by rw [show mo_ha W 1 = true from (hha.trans (decide_eq_true (by rw [nI_ltI (by omega) (by omega)] at c11; omega)))]; rfl, h⟩)
set_option maxHeartbeats 4000000 in
set_option maxRecDepth 20000 in
theorem ze_moveTo {l : Launch} {Γ : mw_C} {b : Nat} (hb : Γ.2.2.2 ≤ b) {W : Nat → Int32} {sd : Int32} {H : Heap} {p : Nat} (hH : ws_I Γ b W sd H)  : mw_Cr l Γ mX0_moveTo 1 0 0 (ws_A b) [.ref (b + 15), .int (nI p)] H none (ws_I Γ b (upd (upd W 4 (W 2)) 2 (nI p)) sd) := by
  refine mw_ofG (P := pX0_moveTo) (by decide) (ws_As hb) oX0_moveTo (Nat.le_of_ble_eq_true rfl) ?_
  intro pg e0 sg mg below meth cd X hs
  refine mw_pre (I' := ws_I Γ b W sd) (fun H1 h1 => by rw [h1]; exact hH) ?_
  refine mw_steps X 2 (pc' := 2) (lv' := [(0, .ref (b + 15)), (1, .int (nI p))]) (st' := [.ref (b + 15), .ref (b + 15)]) rfl ?_
  refine mw_get X kf_X0_37.fl kc_0 rfl (v := .int (W (2))) (fun H h => ⟨_, h.2.2.2.2.2.2.2.2.1, congrArg (fun z => some (Value.int z)) rfl⟩) ?_
  refine mw_put X kf_X0_24.fl kc_0 ⟨_, _, _, .int, rfl, rfl, by decide, rfl, rfl⟩ rfl (I1 := ws_I Γ b (upd W (4) (W (2))) sd) (fun H h => ⟨ws_A0 (by omega), _, h.2.2.2.2.2.2.2.2.1, Nat.le_of_ble_eq_true rfl, fun H1 o c => h.s4 o c⟩) ?_
  refine mw_steps X 2 (pc' := 10) (lv' := [(0, .ref (b + 15)), (1, .int (nI p))]) (st' := [.int (nI p), .ref (b + 15)]) rfl ?_
  refine mw_put X kf_X0_37.fl kc_0 ⟨_, _, _, .int, rfl, rfl, by decide, rfl, rfl⟩ rfl (I1 := ws_I Γ b (upd (upd W (4) (W (2))) (2) (nI p)) sd) (fun H h => ⟨ws_A0 (by omega), _, h.2.2.2.2.2.2.2.2.1, Nat.le_of_ble_eq_true rfl, fun H1 o c => h.s2 o c⟩) ?_
  exact mw_vret X rfl rfl (fun H h => ⟨rfl, h⟩)
set_option maxHeartbeats 4000000 in
set_option maxRecDepth 20000 in
theorem zw_held {l : Launch} {Γ : mw_C} {b : Nat} (hb : Γ.2.2.2 ≤ b) {W : Nat → Int32} {sd : Int32} {H : Heap} {p : Nat} (hH : ws_I Γ b W sd H) (hc : iv_c W) : mw_Cr l Γ mX3_waitingFor 2 0 0 (ws_A b) [.ref b, .int (nI p)] H (some (.int (nI (mo_hf W p)))) (ws_I Γ b W sd) := by
  obtain ⟨n, hn2, hn⟩ := hc.2.1
  have hnn : mo_n (W 12) = n := by rw [hn, ml_n (by omega)]
  refine mw_ofG (P := pX3_waitingFor) (by decide) (ws_As hb) oX3_waitingFor (Nat.le_of_ble_eq_true rfl) ?_
  intro pg e0 sg mg below meth cd X hs
  refine mw_pre (I' := ws_I Γ b W sd) (fun H1 h1 => by rw [h1]; exact hH) ?_
  refine mw_steps X 4 (pc' := 4) (lv' := [(3, .int (nI 0)), (2, .int (nI 0)), (0, .ref b), (1, .int (nI p))]) (st' := []) rfl ?_
  refine mw_wf (fun t => n - t) (fun t => t ≤ n) (fun _ => ws_I Γ b W sd) (fun t => [(3, .int (nI t)), (2, .int (nI (mo_cnt (fun k => decide (W (471 + 3 * k) = nI p)) t))), (0, .ref b), (1, .int (nI p))]) (fun t ht ih => ?_) 0 (Nat.zero_le _)
  refine mw_steps X 2 (pc' := 6) (lv' := [(3, .int (nI t)), (2, .int (nI (mo_cnt (fun k => decide (W (471 + 3 * k) = nI p)) t))), (0, .ref b), (1, .int (nI p))]) (st' := [.ref b, .int (nI t)]) rfl ?_
  refine mw_get X kf_X3_20.fl kc_3 rfl (v := .ref (b + 3)) (fun H h => ⟨_, h.1, rfl⟩) ?_
  refine mw_cV0r X kd_X2_size kv_X2_size kl_X3_102 (ci := 2) rfl rfl (Nat.le_of_ble_eq_true rfl) ⟨Nat.le_of_ble_eq_true rfl, Nat.le_of_ble_eq_true rfl⟩ ⟨Nat.le_of_ble_eq_true rfl, Nat.le_of_ble_eq_true rfl⟩ (ws_sub 3 (by omega)) (fun H h => ⟨h.o_waiting, y2_size hb h⟩) ?_
  refine mw_top (y := nI n) (congrArg nI hnn) ?_
  refine mw_icmp_ge X 37 rfl rfl (fun c12 => ?_) (fun c12 => ?_)
  · have htn : t = n := by rw [nI_leI (by omega) (by omega)] at c12; omega
    refine mw_steps X 1 (pc' := 38) (lv' := [(3, .int (nI t)), (2, .int (nI (mo_cnt (fun k => decide (W (471 + 3 * k) = nI p)) t))), (0, .ref b), (1, .int (nI p))]) (st' := [.int (nI (mo_cnt (fun k => decide (W (471 + 3 * k) = nI p)) t))]) rfl ?_
    exact mw_iret X rfl rfl (fun H h => ⟨by unfold mo_hf; rw [hnn, htn], h⟩)
  · have htn : t < n := by rw [nI_leI (by omega) (by omega)] at c12; omega
    refine mw_steps X 1 (pc' := 16) (lv' := [(3, .int (nI t)), (2, .int (nI (mo_cnt (fun k => decide (W (471 + 3 * k) = nI p)) t))), (0, .ref b), (1, .int (nI p))]) (st' := [.ref b]) rfl ?_
    refine mw_get X kf_X3_20.fl kc_3 rfl (v := .ref (b + 3)) (fun H h => ⟨_, h.1, rfl⟩) ?_
    refine mw_steps X 2 (pc' := 21) (lv' := [(3, .int (nI t)), (2, .int (nI (mo_cnt (fun k => decide (W (471 + 3 * k) = nI p)) t))), (0, .ref b), (1, .int (nI p))]) (st' := [.int (nI 0), .int (nI t), .ref (b + 3)]) rfl ?_
    refine mw_cV2r X kd_X2_at kv_X2_at kl_X3_98 (ci := 2) rfl rfl (Nat.le_of_ble_eq_true rfl) ⟨Nat.le_of_ble_eq_true rfl, Nat.le_of_ble_eq_true rfl⟩ ⟨Nat.le_of_ble_eq_true rfl, Nat.le_of_ble_eq_true rfl⟩ (ws_sub 3 (by omega)) (fun H h => ⟨h.o_waiting, y2_at0 hb h (by rw [hnn]; omega)⟩) ?_
    refine mw_steps X 1 (pc' := 25) (lv' := [(3, .int (nI t)), (2, .int (nI (mo_cnt (fun k => decide (W (471 + 3 * k) = nI p)) t))), (0, .ref b), (1, .int (nI p))]) (st' := [.int (nI p), .int (W (471 + 3 * t))]) rfl ?_
    refine mw_icmp_ne X 31 rfl rfl (fun c25 => ?_) (fun c25 => ?_)
    · refine mw_steps X 2 (pc' := 4) (lv' := [(3, .int ((nI t) + (nI 1))), (2, .int (nI (mo_cnt (fun k => decide (W (471 + 3 * k) = nI p)) t))), (0, .ref b), (1, .int (nI p))]) (st' := []) rfl ?_
      refine mw_lveq (lv' := [(3, .int (nI (t + 1))), (2, .int (nI (mo_cnt (fun k => decide (W (471 + 3 * k) = nI p)) (t + 1)))), (0, .ref b), (1, .int (nI p))]) (by rw [ml_cnt_n (P := (fun k => decide (W (471 + 3 * k) = nI p))) (decide_eq_false c25), nI_add]; rfl) ?_
      exact ih (t + 1) (by omega) (by omega)
    · refine mw_steps X 3 (pc' := 4) (lv' := [(3, .int ((nI t) + (nI 1))), (2, .int ((nI (mo_cnt (fun k => decide (W (471 + 3 * k) = nI p)) t)) + (nI 1))), (0, .ref b), (1, .int (nI p))]) (st' := []) rfl ?_
      refine mw_lveq (lv' := [(3, .int (nI (t + 1))), (2, .int (nI (mo_cnt (fun k => decide (W (471 + 3 * k) = nI p)) (t + 1)))), (0, .ref b), (1, .int (nI p))]) (by rw [ml_cnt_y (P := (fun k => decide (W (471 + 3 * k) = nI p))) (decide_eq_true c25), nI_add]; simp only [nI_add]) ?_
      exact ih (t + 1) (by omega) (by omega)
set_option maxHeartbeats 4000000 in
set_option maxRecDepth 20000 in
theorem zw_fa01 {l : Launch} {Γ : mw_C} {b : Nat} (hb : Γ.2.2.2 ≤ b) {W : Nat → Int32} {sd : Int32} {H : Heap} {v : Int32} (hH : ws_I Γ b W sd H) (hc : iv_c W) : mw_Cr l Γ mX3_askedWith 2 0 0 (ws_A b) [.ref b, .int (nI 0), .int (nI 1), .int v] H (some (.int (mo_ix (mo_fa W 0 1 v) (mo_n (W 13))))) (ws_I Γ b W sd) := by
  obtain ⟨n, hn2, hn⟩ := hc.2.2
  have hnn : mo_n (W 13) = n := by rw [hn, ml_n (by omega)]
  rw [hnn]
  refine mw_ofG (P := pX3_askedWith) (by decide) (ws_As hb) oX3_askedWith (Nat.le_of_ble_eq_true rfl) ?_
  intro pg e0 sg mg below meth cd X hs
  refine mw_pre (I' := ws_I Γ b W sd) (fun H1 h1 => by rw [h1]; exact hH) ?_
  refine mw_steps X 2 (pc' := 3) (lv' := [(4, .int (nI 0)), (0, .ref b), (1, .int (nI 0)), (2, .int (nI 1)), (3, .int v)]) (st' := []) rfl ?_
  refine mw_wf (fun t => n - t) (fun t => t ≤ n ∧ ∀ j, j < t → ¬ (W (507 + 5 * j) = nI 0 ∧ W (507 + 5 * j + 1) = v)) (fun _ => ws_I Γ b W sd) (fun t => [(4, .int (nI t)), (0, .ref b), (1, .int (nI 0)), (2, .int (nI 1)), (3, .int v)]) (fun t ht ih => ?_) 0 ⟨Nat.zero_le _, fun j hj => absurd hj (Nat.not_lt_zero j)⟩
  obtain ⟨ht, hno⟩ := ht
  refine mw_steps X 2 (pc' := 6) (lv' := [(4, .int (nI t)), (0, .ref b), (1, .int (nI 0)), (2, .int (nI 1)), (3, .int v)]) (st' := [.ref b, .int (nI t)]) rfl ?_
  refine mw_get X kf_X3_23.fl kc_3 rfl (v := .ref (b + 5)) (fun H h => ⟨_, h.1, rfl⟩) ?_
  refine mw_cV0r X kd_X2_size kv_X2_size kl_X3_102 (ci := 2) rfl rfl (Nat.le_of_ble_eq_true rfl) ⟨Nat.le_of_ble_eq_true rfl, Nat.le_of_ble_eq_true rfl⟩ ⟨Nat.le_of_ble_eq_true rfl, Nat.le_of_ble_eq_true rfl⟩ (ws_sub 5 (by omega)) (fun H h => ⟨h.o_asked, y3_size hb h⟩) ?_
  refine mw_top (y := nI n) (congrArg nI hnn) ?_
  refine mw_icmp_ge X 52 rfl rfl (fun c12 => ?_) (fun c12 => ?_)
  · have htn : t = n := by rw [nI_leI (by omega) (by omega)] at c12; omega
    refine mw_steps X 1 (pc' := 53) (lv' := [(4, .int (nI t)), (0, .ref b), (1, .int (nI 0)), (2, .int (nI 1)), (3, .int v)]) (st' := [.int (-1)]) rfl ?_
    exact mw_iret X rfl rfl (fun H h => ⟨congrArg (fun z => some (Value.int z)) (by subst htn; unfold mo_ix; rw [ml_fa_none hn hn2 hno, if_neg (by omega)]), h⟩)
  · have htn : t < n := by rw [nI_leI (by omega) (by omega)] at c12; omega
    refine mw_steps X 1 (pc' := 16) (lv' := [(4, .int (nI t)), (0, .ref b), (1, .int (nI 0)), (2, .int (nI 1)), (3, .int v)]) (st' := [.ref b]) rfl ?_
    refine mw_get X kf_X3_23.fl kc_3 rfl (v := .ref (b + 5)) (fun H h => ⟨_, h.1, rfl⟩) ?_
    refine mw_steps X 2 (pc' := 22) (lv' := [(4, .int (nI t)), (0, .ref b), (1, .int (nI 0)), (2, .int (nI 1)), (3, .int v)]) (st' := [.int (nI 0), .int (nI t), .ref (b + 5)]) rfl ?_
    refine mw_cV2r X kd_X2_at kv_X2_at kl_X3_98 (ci := 2) rfl rfl (Nat.le_of_ble_eq_true rfl) ⟨Nat.le_of_ble_eq_true rfl, Nat.le_of_ble_eq_true rfl⟩ ⟨Nat.le_of_ble_eq_true rfl, Nat.le_of_ble_eq_true rfl⟩ (ws_sub 5 (by omega)) (fun H h => ⟨h.o_asked, y3_at0 hb h (by rw [hnn]; omega)⟩) ?_
    refine mw_steps X 1 (pc' := 26) (lv' := [(4, .int (nI t)), (0, .ref b), (1, .int (nI 0)), (2, .int (nI 1)), (3, .int v)]) (st' := [.int (nI 0), .int (W (507 + 5 * t))]) rfl ?_
    refine mw_icmp_ne X 46 rfl rfl (fun c26 => ?_) (fun c26 => ?_)
    · refine mw_steps X 2 (pc' := 3) (lv' := [(4, .int ((nI t) + (nI 1))), (0, .ref b), (1, .int (nI 0)), (2, .int (nI 1)), (3, .int v)]) (st' := []) rfl ?_
      refine mw_lveq (lv' := [(4, .int (nI (t + 1))), (0, .ref b), (1, .int (nI 0)), (2, .int (nI 1)), (3, .int v)]) (by simp only [nI_add]) ?_
      exact ih (t + 1) ⟨by omega, ml_succ hno (by first | exact fun q => c26 q.1 | exact fun q => c40 q.2)⟩ (by omega)
    · refine mw_steps X 1 (pc' := 30) (lv' := [(4, .int (nI t)), (0, .ref b), (1, .int (nI 0)), (2, .int (nI 1)), (3, .int v)]) (st' := [.ref b]) rfl ?_
      refine mw_get X kf_X3_23.fl kc_3 rfl (v := .ref (b + 5)) (fun H h => ⟨_, h.1, rfl⟩) ?_
      refine mw_steps X 2 (pc' := 36) (lv' := [(4, .int (nI t)), (0, .ref b), (1, .int (nI 0)), (2, .int (nI 1)), (3, .int v)]) (st' := [.int (nI 1), .int (nI t), .ref (b + 5)]) rfl ?_
      refine mw_cV2r X kd_X2_at kv_X2_at kl_X3_98 (ci := 2) rfl rfl (Nat.le_of_ble_eq_true rfl) ⟨Nat.le_of_ble_eq_true rfl, Nat.le_of_ble_eq_true rfl⟩ ⟨Nat.le_of_ble_eq_true rfl, Nat.le_of_ble_eq_true rfl⟩ (ws_sub 5 (by omega)) (fun H h => ⟨h.o_asked, y3_at1 hb h (by rw [hnn]; omega)⟩) ?_
      refine mw_steps X 1 (pc' := 40) (lv' := [(4, .int (nI t)), (0, .ref b), (1, .int (nI 0)), (2, .int (nI 1)), (3, .int v)]) (st' := [.int v, .int (W (507 + 5 * t + 1))]) rfl ?_
      refine mw_icmp_ne X 46 rfl rfl (fun c40 => ?_) (fun c40 => ?_)
      · refine mw_steps X 2 (pc' := 3) (lv' := [(4, .int ((nI t) + (nI 1))), (0, .ref b), (1, .int (nI 0)), (2, .int (nI 1)), (3, .int v)]) (st' := []) rfl ?_
        refine mw_lveq (lv' := [(4, .int (nI (t + 1))), (0, .ref b), (1, .int (nI 0)), (2, .int (nI 1)), (3, .int v)]) (by simp only [nI_add]) ?_
        exact ih (t + 1) ⟨by omega, ml_succ hno (by first | exact fun q => c26 q.1 | exact fun q => c40 q.2)⟩ (by omega)
      · refine mw_steps X 1 (pc' := 45) (lv' := [(4, .int (nI t)), (0, .ref b), (1, .int (nI 0)), (2, .int (nI 1)), (3, .int v)]) (st' := [.int (nI t)]) rfl ?_
        exact mw_iret X rfl rfl (fun H h => ⟨congrArg (fun z => some (Value.int z)) (by unfold mo_ix; rw [ml_fa_is hn hn2 htn c26 c40 hno, if_pos htn]), h⟩)
set_option maxHeartbeats 4000000 in
set_option maxRecDepth 20000 in
theorem zw_fa11 {l : Launch} {Γ : mw_C} {b : Nat} (hb : Γ.2.2.2 ≤ b) {W : Nat → Int32} {sd : Int32} {H : Heap} {v : Int32} (hH : ws_I Γ b W sd H) (hc : iv_c W) : mw_Cr l Γ mX3_askedWith 2 0 0 (ws_A b) [.ref b, .int (nI 1), .int (nI 1), .int v] H (some (.int (mo_ix (mo_fa W 1 1 v) (mo_n (W 13))))) (ws_I Γ b W sd) := by
  obtain ⟨n, hn2, hn⟩ := hc.2.2
  have hnn : mo_n (W 13) = n := by rw [hn, ml_n (by omega)]
  rw [hnn]
  refine mw_ofG (P := pX3_askedWith) (by decide) (ws_As hb) oX3_askedWith (Nat.le_of_ble_eq_true rfl) ?_
  intro pg e0 sg mg below meth cd X hs
  refine mw_pre (I' := ws_I Γ b W sd) (fun H1 h1 => by rw [h1]; exact hH) ?_
  refine mw_steps X 2 (pc' := 3) (lv' := [(4, .int (nI 0)), (0, .ref b), (1, .int (nI 1)), (2, .int (nI 1)), (3, .int v)]) (st' := []) rfl ?_
  refine mw_wf (fun t => n - t) (fun t => t ≤ n ∧ ∀ j, j < t → ¬ (W (507 + 5 * j) = nI 1 ∧ W (507 + 5 * j + 1) = v)) (fun _ => ws_I Γ b W sd) (fun t => [(4, .int (nI t)), (0, .ref b), (1, .int (nI 1)), (2, .int (nI 1)), (3, .int v)]) (fun t ht ih => ?_) 0 ⟨Nat.zero_le _, fun j hj => absurd hj (Nat.not_lt_zero j)⟩
  obtain ⟨ht, hno⟩ := ht
  refine mw_steps X 2 (pc' := 6) (lv' := [(4, .int (nI t)), (0, .ref b), (1, .int (nI 1)), (2, .int (nI 1)), (3, .int v)]) (st' := [.ref b, .int (nI t)]) rfl ?_
  refine mw_get X kf_X3_23.fl kc_3 rfl (v := .ref (b + 5)) (fun H h => ⟨_, h.1, rfl⟩) ?_
  refine mw_cV0r X kd_X2_size kv_X2_size kl_X3_102 (ci := 2) rfl rfl (Nat.le_of_ble_eq_true rfl) ⟨Nat.le_of_ble_eq_true rfl, Nat.le_of_ble_eq_true rfl⟩ ⟨Nat.le_of_ble_eq_true rfl, Nat.le_of_ble_eq_true rfl⟩ (ws_sub 5 (by omega)) (fun H h => ⟨h.o_asked, y3_size hb h⟩) ?_
  refine mw_top (y := nI n) (congrArg nI hnn) ?_
  refine mw_icmp_ge X 52 rfl rfl (fun c12 => ?_) (fun c12 => ?_)
  · have htn : t = n := by rw [nI_leI (by omega) (by omega)] at c12; omega
    refine mw_steps X 1 (pc' := 53) (lv' := [(4, .int (nI t)), (0, .ref b), (1, .int (nI 1)), (2, .int (nI 1)), (3, .int v)]) (st' := [.int (-1)]) rfl ?_
    exact mw_iret X rfl rfl (fun H h => ⟨congrArg (fun z => some (Value.int z)) (by subst htn; unfold mo_ix; rw [ml_fa_none hn hn2 hno, if_neg (by omega)]), h⟩)
  · have htn : t < n := by rw [nI_leI (by omega) (by omega)] at c12; omega
    refine mw_steps X 1 (pc' := 16) (lv' := [(4, .int (nI t)), (0, .ref b), (1, .int (nI 1)), (2, .int (nI 1)), (3, .int v)]) (st' := [.ref b]) rfl ?_
    refine mw_get X kf_X3_23.fl kc_3 rfl (v := .ref (b + 5)) (fun H h => ⟨_, h.1, rfl⟩) ?_
    refine mw_steps X 2 (pc' := 22) (lv' := [(4, .int (nI t)), (0, .ref b), (1, .int (nI 1)), (2, .int (nI 1)), (3, .int v)]) (st' := [.int (nI 0), .int (nI t), .ref (b + 5)]) rfl ?_
    refine mw_cV2r X kd_X2_at kv_X2_at kl_X3_98 (ci := 2) rfl rfl (Nat.le_of_ble_eq_true rfl) ⟨Nat.le_of_ble_eq_true rfl, Nat.le_of_ble_eq_true rfl⟩ ⟨Nat.le_of_ble_eq_true rfl, Nat.le_of_ble_eq_true rfl⟩ (ws_sub 5 (by omega)) (fun H h => ⟨h.o_asked, y3_at0 hb h (by rw [hnn]; omega)⟩) ?_
    refine mw_steps X 1 (pc' := 26) (lv' := [(4, .int (nI t)), (0, .ref b), (1, .int (nI 1)), (2, .int (nI 1)), (3, .int v)]) (st' := [.int (nI 1), .int (W (507 + 5 * t))]) rfl ?_
    refine mw_icmp_ne X 46 rfl rfl (fun c26 => ?_) (fun c26 => ?_)
    · refine mw_steps X 2 (pc' := 3) (lv' := [(4, .int ((nI t) + (nI 1))), (0, .ref b), (1, .int (nI 1)), (2, .int (nI 1)), (3, .int v)]) (st' := []) rfl ?_
      refine mw_lveq (lv' := [(4, .int (nI (t + 1))), (0, .ref b), (1, .int (nI 1)), (2, .int (nI 1)), (3, .int v)]) (by simp only [nI_add]) ?_
      exact ih (t + 1) ⟨by omega, ml_succ hno (by first | exact fun q => c26 q.1 | exact fun q => c40 q.2)⟩ (by omega)
    · refine mw_steps X 1 (pc' := 30) (lv' := [(4, .int (nI t)), (0, .ref b), (1, .int (nI 1)), (2, .int (nI 1)), (3, .int v)]) (st' := [.ref b]) rfl ?_
      refine mw_get X kf_X3_23.fl kc_3 rfl (v := .ref (b + 5)) (fun H h => ⟨_, h.1, rfl⟩) ?_
      refine mw_steps X 2 (pc' := 36) (lv' := [(4, .int (nI t)), (0, .ref b), (1, .int (nI 1)), (2, .int (nI 1)), (3, .int v)]) (st' := [.int (nI 1), .int (nI t), .ref (b + 5)]) rfl ?_
      refine mw_cV2r X kd_X2_at kv_X2_at kl_X3_98 (ci := 2) rfl rfl (Nat.le_of_ble_eq_true rfl) ⟨Nat.le_of_ble_eq_true rfl, Nat.le_of_ble_eq_true rfl⟩ ⟨Nat.le_of_ble_eq_true rfl, Nat.le_of_ble_eq_true rfl⟩ (ws_sub 5 (by omega)) (fun H h => ⟨h.o_asked, y3_at1 hb h (by rw [hnn]; omega)⟩) ?_
      refine mw_steps X 1 (pc' := 40) (lv' := [(4, .int (nI t)), (0, .ref b), (1, .int (nI 1)), (2, .int (nI 1)), (3, .int v)]) (st' := [.int v, .int (W (507 + 5 * t + 1))]) rfl ?_
      refine mw_icmp_ne X 46 rfl rfl (fun c40 => ?_) (fun c40 => ?_)
      · refine mw_steps X 2 (pc' := 3) (lv' := [(4, .int ((nI t) + (nI 1))), (0, .ref b), (1, .int (nI 1)), (2, .int (nI 1)), (3, .int v)]) (st' := []) rfl ?_
        refine mw_lveq (lv' := [(4, .int (nI (t + 1))), (0, .ref b), (1, .int (nI 1)), (2, .int (nI 1)), (3, .int v)]) (by simp only [nI_add]) ?_
        exact ih (t + 1) ⟨by omega, ml_succ hno (by first | exact fun q => c26 q.1 | exact fun q => c40 q.2)⟩ (by omega)
      · refine mw_steps X 1 (pc' := 45) (lv' := [(4, .int (nI t)), (0, .ref b), (1, .int (nI 1)), (2, .int (nI 1)), (3, .int v)]) (st' := [.int (nI t)]) rfl ?_
        exact mw_iret X rfl rfl (fun H h => ⟨congrArg (fun z => some (Value.int z)) (by unfold mo_ix; rw [ml_fa_is hn hn2 htn c26 c40 hno, if_pos htn]), h⟩)
set_option maxHeartbeats 4000000 in
set_option maxRecDepth 20000 in
theorem zw_fa12 {l : Launch} {Γ : mw_C} {b : Nat} (hb : Γ.2.2.2 ≤ b) {W : Nat → Int32} {sd : Int32} {H : Heap} {v : Int32} (hH : ws_I Γ b W sd H) (hc : iv_c W) : mw_Cr l Γ mX3_askedWith 2 0 0 (ws_A b) [.ref b, .int (nI 1), .int (nI 2), .int v] H (some (.int (mo_ix (mo_fa W 1 2 v) (mo_n (W 13))))) (ws_I Γ b W sd) := by
  obtain ⟨n, hn2, hn⟩ := hc.2.2
  have hnn : mo_n (W 13) = n := by rw [hn, ml_n (by omega)]
  rw [hnn]
  refine mw_ofG (P := pX3_askedWith) (by decide) (ws_As hb) oX3_askedWith (Nat.le_of_ble_eq_true rfl) ?_
  intro pg e0 sg mg below meth cd X hs
  refine mw_pre (I' := ws_I Γ b W sd) (fun H1 h1 => by rw [h1]; exact hH) ?_
  refine mw_steps X 2 (pc' := 3) (lv' := [(4, .int (nI 0)), (0, .ref b), (1, .int (nI 1)), (2, .int (nI 2)), (3, .int v)]) (st' := []) rfl ?_
  refine mw_wf (fun t => n - t) (fun t => t ≤ n ∧ ∀ j, j < t → ¬ (W (507 + 5 * j) = nI 1 ∧ W (507 + 5 * j + 2) = v)) (fun _ => ws_I Γ b W sd) (fun t => [(4, .int (nI t)), (0, .ref b), (1, .int (nI 1)), (2, .int (nI 2)), (3, .int v)]) (fun t ht ih => ?_) 0 ⟨Nat.zero_le _, fun j hj => absurd hj (Nat.not_lt_zero j)⟩
  obtain ⟨ht, hno⟩ := ht
  refine mw_steps X 2 (pc' := 6) (lv' := [(4, .int (nI t)), (0, .ref b), (1, .int (nI 1)), (2, .int (nI 2)), (3, .int v)]) (st' := [.ref b, .int (nI t)]) rfl ?_
  refine mw_get X kf_X3_23.fl kc_3 rfl (v := .ref (b + 5)) (fun H h => ⟨_, h.1, rfl⟩) ?_
  refine mw_cV0r X kd_X2_size kv_X2_size kl_X3_102 (ci := 2) rfl rfl (Nat.le_of_ble_eq_true rfl) ⟨Nat.le_of_ble_eq_true rfl, Nat.le_of_ble_eq_true rfl⟩ ⟨Nat.le_of_ble_eq_true rfl, Nat.le_of_ble_eq_true rfl⟩ (ws_sub 5 (by omega)) (fun H h => ⟨h.o_asked, y3_size hb h⟩) ?_
  refine mw_top (y := nI n) (congrArg nI hnn) ?_
  refine mw_icmp_ge X 52 rfl rfl (fun c12 => ?_) (fun c12 => ?_)
  · have htn : t = n := by rw [nI_leI (by omega) (by omega)] at c12; omega
    refine mw_steps X 1 (pc' := 53) (lv' := [(4, .int (nI t)), (0, .ref b), (1, .int (nI 1)), (2, .int (nI 2)), (3, .int v)]) (st' := [.int (-1)]) rfl ?_
    exact mw_iret X rfl rfl (fun H h => ⟨congrArg (fun z => some (Value.int z)) (by subst htn; unfold mo_ix; rw [ml_fa_none hn hn2 hno, if_neg (by omega)]), h⟩)
  · have htn : t < n := by rw [nI_leI (by omega) (by omega)] at c12; omega
    refine mw_steps X 1 (pc' := 16) (lv' := [(4, .int (nI t)), (0, .ref b), (1, .int (nI 1)), (2, .int (nI 2)), (3, .int v)]) (st' := [.ref b]) rfl ?_
    refine mw_get X kf_X3_23.fl kc_3 rfl (v := .ref (b + 5)) (fun H h => ⟨_, h.1, rfl⟩) ?_
    refine mw_steps X 2 (pc' := 22) (lv' := [(4, .int (nI t)), (0, .ref b), (1, .int (nI 1)), (2, .int (nI 2)), (3, .int v)]) (st' := [.int (nI 0), .int (nI t), .ref (b + 5)]) rfl ?_
    refine mw_cV2r X kd_X2_at kv_X2_at kl_X3_98 (ci := 2) rfl rfl (Nat.le_of_ble_eq_true rfl) ⟨Nat.le_of_ble_eq_true rfl, Nat.le_of_ble_eq_true rfl⟩ ⟨Nat.le_of_ble_eq_true rfl, Nat.le_of_ble_eq_true rfl⟩ (ws_sub 5 (by omega)) (fun H h => ⟨h.o_asked, y3_at0 hb h (by rw [hnn]; omega)⟩) ?_
    refine mw_steps X 1 (pc' := 26) (lv' := [(4, .int (nI t)), (0, .ref b), (1, .int (nI 1)), (2, .int (nI 2)), (3, .int v)]) (st' := [.int (nI 1), .int (W (507 + 5 * t))]) rfl ?_
    refine mw_icmp_ne X 46 rfl rfl (fun c26 => ?_) (fun c26 => ?_)
    · refine mw_steps X 2 (pc' := 3) (lv' := [(4, .int ((nI t) + (nI 1))), (0, .ref b), (1, .int (nI 1)), (2, .int (nI 2)), (3, .int v)]) (st' := []) rfl ?_
      refine mw_lveq (lv' := [(4, .int (nI (t + 1))), (0, .ref b), (1, .int (nI 1)), (2, .int (nI 2)), (3, .int v)]) (by simp only [nI_add]) ?_
      exact ih (t + 1) ⟨by omega, ml_succ hno (by first | exact fun q => c26 q.1 | exact fun q => c40 q.2)⟩ (by omega)
    · refine mw_steps X 1 (pc' := 30) (lv' := [(4, .int (nI t)), (0, .ref b), (1, .int (nI 1)), (2, .int (nI 2)), (3, .int v)]) (st' := [.ref b]) rfl ?_
      refine mw_get X kf_X3_23.fl kc_3 rfl (v := .ref (b + 5)) (fun H h => ⟨_, h.1, rfl⟩) ?_
      refine mw_steps X 2 (pc' := 36) (lv' := [(4, .int (nI t)), (0, .ref b), (1, .int (nI 1)), (2, .int (nI 2)), (3, .int v)]) (st' := [.int (nI 2), .int (nI t), .ref (b + 5)]) rfl ?_
      refine mw_cV2r X kd_X2_at kv_X2_at kl_X3_98 (ci := 2) rfl rfl (Nat.le_of_ble_eq_true rfl) ⟨Nat.le_of_ble_eq_true rfl, Nat.le_of_ble_eq_true rfl⟩ ⟨Nat.le_of_ble_eq_true rfl, Nat.le_of_ble_eq_true rfl⟩ (ws_sub 5 (by omega)) (fun H h => ⟨h.o_asked, y3_at2 hb h (by rw [hnn]; omega)⟩) ?_
      refine mw_steps X 1 (pc' := 40) (lv' := [(4, .int (nI t)), (0, .ref b), (1, .int (nI 1)), (2, .int (nI 2)), (3, .int v)]) (st' := [.int v, .int (W (507 + 5 * t + 2))]) rfl ?_
      refine mw_icmp_ne X 46 rfl rfl (fun c40 => ?_) (fun c40 => ?_)
      · refine mw_steps X 2 (pc' := 3) (lv' := [(4, .int ((nI t) + (nI 1))), (0, .ref b), (1, .int (nI 1)), (2, .int (nI 2)), (3, .int v)]) (st' := []) rfl ?_
        refine mw_lveq (lv' := [(4, .int (nI (t + 1))), (0, .ref b), (1, .int (nI 1)), (2, .int (nI 2)), (3, .int v)]) (by simp only [nI_add]) ?_
        exact ih (t + 1) ⟨by omega, ml_succ hno (by first | exact fun q => c26 q.1 | exact fun q => c40 q.2)⟩ (by omega)
      · refine mw_steps X 1 (pc' := 45) (lv' := [(4, .int (nI t)), (0, .ref b), (1, .int (nI 1)), (2, .int (nI 2)), (3, .int v)]) (st' := [.int (nI t)]) rfl ?_
        exact mw_iret X rfl rfl (fun H h => ⟨congrArg (fun z => some (Value.int z)) (by unfold mo_ix; rw [ml_fa_is hn hn2 htn c26 c40 hno, if_pos htn]), h⟩)
set_option maxHeartbeats 4000000 in
set_option maxRecDepth 20000 in
theorem zw_ans0T {l : Launch} {Γ : mw_C} {b : Nat} (hb : Γ.2.2.2 ≤ b) {W : Nat → Int32} {sd : Int32} {H : Heap} {v : Int32} (hH : ws_I Γ b W sd H) (hc : iv_c W) (hf :  mo_fa W 0 1 v < mo_n (W 13)) : mw_Cr l Γ mX3_answered 3 0 0 (ws_A b) [.ref b, .int (nI 0), .int v] H (some (.int (W (507 + 5 * mo_fa W 0 1 v + 2)))) (ws_I Γ b (mo_rm W 507 5 13 (mo_fa W 0 1 v)) sd) := by
  obtain ⟨k, hk⟩ : ∃ k, k = mo_fa W 0 1 v := ⟨_, rfl⟩
  rw [← hk] at hf ⊢
  refine mw_ofG (P := pX3_answered) (by decide) (ws_As hb) oX3_answered (Nat.le_of_ble_eq_true rfl) ?_
  intro pg e0 sg mg below meth cd X hs
  refine mw_pre (I' := ws_I Γ b W sd) (fun H1 h1 => by rw [h1]; exact hH) ?_
  refine mw_steps X 4 (pc' := 4) (lv' := [(0, .ref b), (1, .int (nI 0)), (2, .int v)]) (st' := [.int v, .int (nI 1), .int (nI 0), .ref b]) rfl ?_
  refine mw_cV3r X kd_X3_askedWith kv_X3_askedWith kl_X3_169 (ci := 3) rfl rfl (Nat.le_of_ble_eq_true rfl) ⟨Nat.le_of_ble_eq_true rfl, Nat.le_of_ble_eq_true rfl⟩ ⟨Nat.le_of_ble_eq_true rfl, Nat.le_of_ble_eq_true rfl⟩ (fun _ h => h) (fun H h => ⟨⟨_, h.1⟩, zw_fa01 hb h hc⟩) ?_
  refine mw_top (y := nI k) (by rw [← hk]; exact if_pos hf) ?_
  refine mw_steps X 2 (pc' := 9) (lv' := [(3, .int (nI k)), (0, .ref b), (1, .int (nI 0)), (2, .int v)]) (st' := [.ref b]) rfl ?_
  refine mw_get X kf_X3_23.fl kc_3 rfl (v := .ref (b + 5)) (fun H h => ⟨_, h.1, rfl⟩) ?_
  refine mw_steps X 2 (pc' := 14) (lv' := [(3, .int (nI k)), (0, .ref b), (1, .int (nI 0)), (2, .int v)]) (st' := [.int (nI 2), .int (nI k), .ref (b + 5)]) rfl ?_
  refine mw_cV2r X kd_X2_at kv_X2_at kl_X3_98 (ci := 2) rfl rfl (Nat.le_of_ble_eq_true rfl) ⟨Nat.le_of_ble_eq_true rfl, Nat.le_of_ble_eq_true rfl⟩ ⟨Nat.le_of_ble_eq_true rfl, Nat.le_of_ble_eq_true rfl⟩ (ws_sub 5 (by omega)) (fun H h => ⟨h.o_asked, y3_at2 hb h hf⟩) ?_
  refine mw_steps X 2 (pc' := 20) (lv' := [(4, .int (W (507 + 5 * k + 2))), (3, .int (nI k)), (0, .ref b), (1, .int (nI 0)), (2, .int v)]) (st' := [.ref b]) rfl ?_
  refine mw_get X kf_X3_23.fl kc_3 rfl (v := .ref (b + 5)) (fun H h => ⟨_, h.1, rfl⟩) ?_
  refine mw_steps X 1 (pc' := 24) (lv' := [(4, .int (W (507 + 5 * k + 2))), (3, .int (nI k)), (0, .ref b), (1, .int (nI 0)), (2, .int v)]) (st' := [.int (nI k), .ref (b + 5)]) rfl ?_
  refine mw_cV1v X kd_X2_drop kv_X2_drop kl_X3_139 (ci := 2) rfl rfl (Nat.le_of_ble_eq_true rfl) ⟨Nat.le_of_ble_eq_true rfl, Nat.le_of_ble_eq_true rfl⟩ ⟨Nat.le_of_ble_eq_true rfl, Nat.le_of_ble_eq_true rfl⟩ (ws_sub 5 (by omega)) (fun H h => ⟨h.o_asked, y3_drop hb h (ml_i13 hc) hf⟩) ?_
  refine mw_steps X 1 (pc' := 29) (lv' := [(4, .int (W (507 + 5 * k + 2))), (3, .int (nI k)), (0, .ref b), (1, .int (nI 0)), (2, .int v)]) (st' := [.int (W (507 + 5 * k + 2))]) rfl ?_
  exact mw_iret X rfl rfl (fun H h => ⟨rfl, h⟩)
set_option maxHeartbeats 4000000 in
set_option maxRecDepth 20000 in
theorem zw_ans0F {l : Launch} {Γ : mw_C} {b : Nat} (hb : Γ.2.2.2 ≤ b) {W : Nat → Int32} {sd : Int32} {H : Heap} {v : Int32} (hH : ws_I Γ b W sd H) (hc : iv_c W) (hf : ¬ mo_fa W 0 1 v < mo_n (W 13)) : mw_Cr l Γ mX3_answered 3 0 0 (ws_A b) [.ref b, .int (nI 0), .int v] H (some (.int (-1))) (ws_I Γ b W sd) := by
  refine mw_ofG (P := pX3_answered) (by decide) (ws_As hb) oX3_answered (Nat.le_of_ble_eq_true rfl) ?_
  intro pg e0 sg mg below meth cd X hs
  refine mw_pre (I' := ws_I Γ b W sd) (fun H1 h1 => by rw [h1]; exact hH) ?_
  refine mw_steps X 4 (pc' := 4) (lv' := [(0, .ref b), (1, .int (nI 0)), (2, .int v)]) (st' := [.int v, .int (nI 1), .int (nI 0), .ref b]) rfl ?_
  refine mw_cV3r X kd_X3_askedWith kv_X3_askedWith kl_X3_169 (ci := 3) rfl rfl (Nat.le_of_ble_eq_true rfl) ⟨Nat.le_of_ble_eq_true rfl, Nat.le_of_ble_eq_true rfl⟩ ⟨Nat.le_of_ble_eq_true rfl, Nat.le_of_ble_eq_true rfl⟩ (fun _ h => h) (fun H h => ⟨⟨_, h.1⟩, zw_fa01 hb h hc⟩) ?_
  refine mw_top (y := (-1)) (if_neg hf) ?_
  refine mw_steps X 2 (pc' := 9) (lv' := [(3, .int (-1)), (0, .ref b), (1, .int (nI 0)), (2, .int v)]) (st' := [.ref b]) rfl ?_
  refine mw_get X kf_X3_23.fl kc_3 rfl (v := .ref (b + 5)) (fun H h => ⟨_, h.1, rfl⟩) ?_
  refine mw_steps X 2 (pc' := 14) (lv' := [(3, .int (-1)), (0, .ref b), (1, .int (nI 0)), (2, .int v)]) (st' := [.int (nI 2), .int (-1), .ref (b + 5)]) rfl ?_
  refine mw_cV2r X kd_X2_at kv_X2_at kl_X3_98 (ci := 2) rfl rfl (Nat.le_of_ble_eq_true rfl) ⟨Nat.le_of_ble_eq_true rfl, Nat.le_of_ble_eq_true rfl⟩ ⟨Nat.le_of_ble_eq_true rfl, Nat.le_of_ble_eq_true rfl⟩ (ws_sub 5 (by omega)) (fun H h => ⟨h.o_asked, y3_atN hb h⟩) ?_
  refine mw_steps X 2 (pc' := 20) (lv' := [(4, .int (-1)), (3, .int (-1)), (0, .ref b), (1, .int (nI 0)), (2, .int v)]) (st' := [.ref b]) rfl ?_
  refine mw_get X kf_X3_23.fl kc_3 rfl (v := .ref (b + 5)) (fun H h => ⟨_, h.1, rfl⟩) ?_
  refine mw_steps X 1 (pc' := 24) (lv' := [(4, .int (-1)), (3, .int (-1)), (0, .ref b), (1, .int (nI 0)), (2, .int v)]) (st' := [.int (-1), .ref (b + 5)]) rfl ?_
  refine mw_cV1v X kd_X2_drop kv_X2_drop kl_X3_139 (ci := 2) rfl rfl (Nat.le_of_ble_eq_true rfl) ⟨Nat.le_of_ble_eq_true rfl, Nat.le_of_ble_eq_true rfl⟩ ⟨Nat.le_of_ble_eq_true rfl, Nat.le_of_ble_eq_true rfl⟩ (ws_sub 5 (by omega)) (fun H h => ⟨h.o_asked, y3_dropN hb h⟩) ?_
  refine mw_steps X 1 (pc' := 29) (lv' := [(4, .int (-1)), (3, .int (-1)), (0, .ref b), (1, .int (nI 0)), (2, .int v)]) (st' := [.int (-1)]) rfl ?_
  exact mw_iret X rfl rfl (fun H h => ⟨rfl, h⟩)
set_option maxHeartbeats 4000000 in
set_option maxRecDepth 20000 in
theorem zw_ans1T {l : Launch} {Γ : mw_C} {b : Nat} (hb : Γ.2.2.2 ≤ b) {W : Nat → Int32} {sd : Int32} {H : Heap} {v : Int32} (hH : ws_I Γ b W sd H) (hc : iv_c W) (hf :  mo_fa W 1 1 v < mo_n (W 13)) : mw_Cr l Γ mX3_answered 3 0 0 (ws_A b) [.ref b, .int (nI 1), .int v] H (some (.int (W (507 + 5 * mo_fa W 1 1 v + 2)))) (ws_I Γ b (mo_rm W 507 5 13 (mo_fa W 1 1 v)) sd) := by
  obtain ⟨k, hk⟩ : ∃ k, k = mo_fa W 1 1 v := ⟨_, rfl⟩
  rw [← hk] at hf ⊢
  refine mw_ofG (P := pX3_answered) (by decide) (ws_As hb) oX3_answered (Nat.le_of_ble_eq_true rfl) ?_
  intro pg e0 sg mg below meth cd X hs
  refine mw_pre (I' := ws_I Γ b W sd) (fun H1 h1 => by rw [h1]; exact hH) ?_
  refine mw_steps X 4 (pc' := 4) (lv' := [(0, .ref b), (1, .int (nI 1)), (2, .int v)]) (st' := [.int v, .int (nI 1), .int (nI 1), .ref b]) rfl ?_
  refine mw_cV3r X kd_X3_askedWith kv_X3_askedWith kl_X3_169 (ci := 3) rfl rfl (Nat.le_of_ble_eq_true rfl) ⟨Nat.le_of_ble_eq_true rfl, Nat.le_of_ble_eq_true rfl⟩ ⟨Nat.le_of_ble_eq_true rfl, Nat.le_of_ble_eq_true rfl⟩ (fun _ h => h) (fun H h => ⟨⟨_, h.1⟩, zw_fa11 hb h hc⟩) ?_
  refine mw_top (y := nI k) (by rw [← hk]; exact if_pos hf) ?_
  refine mw_steps X 2 (pc' := 9) (lv' := [(3, .int (nI k)), (0, .ref b), (1, .int (nI 1)), (2, .int v)]) (st' := [.ref b]) rfl ?_
  refine mw_get X kf_X3_23.fl kc_3 rfl (v := .ref (b + 5)) (fun H h => ⟨_, h.1, rfl⟩) ?_
  refine mw_steps X 2 (pc' := 14) (lv' := [(3, .int (nI k)), (0, .ref b), (1, .int (nI 1)), (2, .int v)]) (st' := [.int (nI 2), .int (nI k), .ref (b + 5)]) rfl ?_
  refine mw_cV2r X kd_X2_at kv_X2_at kl_X3_98 (ci := 2) rfl rfl (Nat.le_of_ble_eq_true rfl) ⟨Nat.le_of_ble_eq_true rfl, Nat.le_of_ble_eq_true rfl⟩ ⟨Nat.le_of_ble_eq_true rfl, Nat.le_of_ble_eq_true rfl⟩ (ws_sub 5 (by omega)) (fun H h => ⟨h.o_asked, y3_at2 hb h hf⟩) ?_
  refine mw_steps X 2 (pc' := 20) (lv' := [(4, .int (W (507 + 5 * k + 2))), (3, .int (nI k)), (0, .ref b), (1, .int (nI 1)), (2, .int v)]) (st' := [.ref b]) rfl ?_
  refine mw_get X kf_X3_23.fl kc_3 rfl (v := .ref (b + 5)) (fun H h => ⟨_, h.1, rfl⟩) ?_
  refine mw_steps X 1 (pc' := 24) (lv' := [(4, .int (W (507 + 5 * k + 2))), (3, .int (nI k)), (0, .ref b), (1, .int (nI 1)), (2, .int v)]) (st' := [.int (nI k), .ref (b + 5)]) rfl ?_
  refine mw_cV1v X kd_X2_drop kv_X2_drop kl_X3_139 (ci := 2) rfl rfl (Nat.le_of_ble_eq_true rfl) ⟨Nat.le_of_ble_eq_true rfl, Nat.le_of_ble_eq_true rfl⟩ ⟨Nat.le_of_ble_eq_true rfl, Nat.le_of_ble_eq_true rfl⟩ (ws_sub 5 (by omega)) (fun H h => ⟨h.o_asked, y3_drop hb h (ml_i13 hc) hf⟩) ?_
  refine mw_steps X 1 (pc' := 29) (lv' := [(4, .int (W (507 + 5 * k + 2))), (3, .int (nI k)), (0, .ref b), (1, .int (nI 1)), (2, .int v)]) (st' := [.int (W (507 + 5 * k + 2))]) rfl ?_
  exact mw_iret X rfl rfl (fun H h => ⟨rfl, h⟩)
set_option maxHeartbeats 4000000 in
set_option maxRecDepth 20000 in
theorem zw_ans1F {l : Launch} {Γ : mw_C} {b : Nat} (hb : Γ.2.2.2 ≤ b) {W : Nat → Int32} {sd : Int32} {H : Heap} {v : Int32} (hH : ws_I Γ b W sd H) (hc : iv_c W) (hf : ¬ mo_fa W 1 1 v < mo_n (W 13)) : mw_Cr l Γ mX3_answered 3 0 0 (ws_A b) [.ref b, .int (nI 1), .int v] H (some (.int (-1))) (ws_I Γ b W sd) := by
  refine mw_ofG (P := pX3_answered) (by decide) (ws_As hb) oX3_answered (Nat.le_of_ble_eq_true rfl) ?_
  intro pg e0 sg mg below meth cd X hs
  refine mw_pre (I' := ws_I Γ b W sd) (fun H1 h1 => by rw [h1]; exact hH) ?_
  refine mw_steps X 4 (pc' := 4) (lv' := [(0, .ref b), (1, .int (nI 1)), (2, .int v)]) (st' := [.int v, .int (nI 1), .int (nI 1), .ref b]) rfl ?_
  refine mw_cV3r X kd_X3_askedWith kv_X3_askedWith kl_X3_169 (ci := 3) rfl rfl (Nat.le_of_ble_eq_true rfl) ⟨Nat.le_of_ble_eq_true rfl, Nat.le_of_ble_eq_true rfl⟩ ⟨Nat.le_of_ble_eq_true rfl, Nat.le_of_ble_eq_true rfl⟩ (fun _ h => h) (fun H h => ⟨⟨_, h.1⟩, zw_fa11 hb h hc⟩) ?_
  refine mw_top (y := (-1)) (if_neg hf) ?_
  refine mw_steps X 2 (pc' := 9) (lv' := [(3, .int (-1)), (0, .ref b), (1, .int (nI 1)), (2, .int v)]) (st' := [.ref b]) rfl ?_
  refine mw_get X kf_X3_23.fl kc_3 rfl (v := .ref (b + 5)) (fun H h => ⟨_, h.1, rfl⟩) ?_
  refine mw_steps X 2 (pc' := 14) (lv' := [(3, .int (-1)), (0, .ref b), (1, .int (nI 1)), (2, .int v)]) (st' := [.int (nI 2), .int (-1), .ref (b + 5)]) rfl ?_
  refine mw_cV2r X kd_X2_at kv_X2_at kl_X3_98 (ci := 2) rfl rfl (Nat.le_of_ble_eq_true rfl) ⟨Nat.le_of_ble_eq_true rfl, Nat.le_of_ble_eq_true rfl⟩ ⟨Nat.le_of_ble_eq_true rfl, Nat.le_of_ble_eq_true rfl⟩ (ws_sub 5 (by omega)) (fun H h => ⟨h.o_asked, y3_atN hb h⟩) ?_
  refine mw_steps X 2 (pc' := 20) (lv' := [(4, .int (-1)), (3, .int (-1)), (0, .ref b), (1, .int (nI 1)), (2, .int v)]) (st' := [.ref b]) rfl ?_
  refine mw_get X kf_X3_23.fl kc_3 rfl (v := .ref (b + 5)) (fun H h => ⟨_, h.1, rfl⟩) ?_
  refine mw_steps X 1 (pc' := 24) (lv' := [(4, .int (-1)), (3, .int (-1)), (0, .ref b), (1, .int (nI 1)), (2, .int v)]) (st' := [.int (-1), .ref (b + 5)]) rfl ?_
  refine mw_cV1v X kd_X2_drop kv_X2_drop kl_X3_139 (ci := 2) rfl rfl (Nat.le_of_ble_eq_true rfl) ⟨Nat.le_of_ble_eq_true rfl, Nat.le_of_ble_eq_true rfl⟩ ⟨Nat.le_of_ble_eq_true rfl, Nat.le_of_ble_eq_true rfl⟩ (ws_sub 5 (by omega)) (fun H h => ⟨h.o_asked, y3_dropN hb h⟩) ?_
  refine mw_steps X 1 (pc' := 29) (lv' := [(4, .int (-1)), (3, .int (-1)), (0, .ref b), (1, .int (nI 1)), (2, .int v)]) (st' := [.int (-1)]) rfl ?_
  exact mw_iret X rfl rfl (fun H h => ⟨rfl, h⟩)
set_option maxHeartbeats 4000000 in
set_option maxRecDepth 20000 in
theorem zw_ask0 {l : Launch} {Γ : mw_C} {b : Nat} (hb : Γ.2.2.2 ≤ b) {W : Nat → Int32} {sd : Int32} {H : Heap} {p : Nat} (hH : ws_I Γ b W sd H) (hc : iv_c W) : mw_Cr l Γ mX3_challenges 2 0 0 (ws_A b) [.ref b, .int (nI 0), .int (nI p)] H (some (.int (W 16))) (ws_I Γ b (mo_ask W 0 p) sd) := by
  obtain ⟨n, hn2, hn⟩ := hc.2.2
  have hnn : mo_n (W 13) = n := by rw [hn, ml_n (by omega)]
  refine mw_ofG (P := pX3_challenges) (by decide) (ws_As hb) oX3_challenges (Nat.le_of_ble_eq_true rfl) ?_
  intro pg e0 sg mg below meth cd X hs
  refine mw_pre (I' := ws_I Γ b W sd) (fun H1 h1 => by rw [h1]; exact hH) ?_
  refine mw_steps X 2 (pc' := 2) (lv' := [(0, .ref b), (1, .int (nI 0)), (2, .int (nI p))]) (st' := [.int (nI 0), .ref b]) rfl ?_
  refine mw_cV1r X kd_X3_endOf kv_X3_endOf kl_X3_142 (ci := 3) rfl rfl (Nat.le_of_ble_eq_true rfl) ⟨Nat.le_of_ble_eq_true rfl, Nat.le_of_ble_eq_true rfl⟩ ⟨Nat.le_of_ble_eq_true rfl, Nat.le_of_ble_eq_true rfl⟩ (fun _ h => h) (fun H h => ⟨⟨_, h.1⟩, zw_endOf0 hb h⟩) ?_
  refine mw_steps X 2 (pc' := 7) (lv' := [(3, .ref (b + 15)), (0, .ref b), (1, .int (nI 0)), (2, .int (nI p))]) (st' := [.ref (b + 15)]) rfl ?_
  refine mw_get X kf_X3_166 kc_0 rfl (v := .int (W (16))) (fun H h => ⟨_, h.2.2.2.2.2.2.2.2.1, congrArg (fun z => some (Value.int z)) rfl⟩) ?_
  refine mw_steps X 5 (pc' := 17) (lv' := [(4, .int (W (16))), (3, .ref (b + 15)), (0, .ref b), (1, .int (nI 0)), (2, .int (nI p))]) (st' := [.int ((W (16)) + (nI 1)), .ref (b + 15)]) rfl ?_
  refine mw_put X kf_X3_166 kc_0 ⟨_, _, _, .int, rfl, rfl, by decide, rfl, rfl⟩ rfl (I1 := ws_I Γ b (upd W (16) ((W (16)) + (nI 1))) sd) (fun H h => ⟨ws_A0 (by omega), _, h.2.2.2.2.2.2.2.2.1, Nat.le_of_ble_eq_true rfl, fun H1 o c => h.s16 o c⟩) ?_
  refine mw_steps X 1 (pc' := 21) (lv' := [(4, .int (W (16))), (3, .ref (b + 15)), (0, .ref b), (1, .int (nI 0)), (2, .int (nI p))]) (st' := [.ref b]) rfl ?_
  refine mw_get X kf_X3_23.fl kc_3 rfl (v := .ref (b + 5)) (fun H h => ⟨_, h.1, rfl⟩) ?_
  refine mw_cV0r X kd_X2_isFull kv_X2_isFull kl_X3_135 (ci := 2) rfl rfl (Nat.le_of_ble_eq_true rfl) ⟨Nat.le_of_ble_eq_true rfl, Nat.le_of_ble_eq_true rfl⟩ ⟨Nat.le_of_ble_eq_true rfl, Nat.le_of_ble_eq_true rfl⟩ (ws_sub 5 (by omega)) (fun H h => ⟨h.o_asked, y3_isFull hb h⟩) ?_
  refine mw_top (y := mo_b (decide (6 ≤ n))) (congrArg (fun z => mo_b (decide (6 ≤ z))) ((congrArg mo_n (by simp (disch := omega) only [pk_un])).trans hnn)) ?_
  refine mw_if_eq X 38 rfl rfl (fun c27 => ?_) (fun c27 => ?_)
  · have hn6 : ¬ 6 ≤ n := of_decide_eq_false (mo_b_z c27)
    refine mw_steps X 1 (pc' := 39) (lv' := [(4, .int (W (16))), (3, .ref (b + 15)), (0, .ref b), (1, .int (nI 0)), (2, .int (nI p))]) (st' := [.ref b]) rfl ?_
    refine mw_get X kf_X3_23.fl kc_3 rfl (v := .ref (b + 5)) (fun H h => ⟨_, h.1, rfl⟩) ?_
    refine mw_steps X 4 (pc' := 47) (lv' := [(4, .int (W (16))), (3, .ref (b + 15)), (0, .ref b), (1, .int (nI 0)), (2, .int (nI p))]) (st' := [.ref b, .int (nI p), .int (W (16)), .int (nI 0), .ref (b + 5)]) rfl ?_
    refine mw_get X kf_X3_89.fl kc_3 rfl (v := .int (W (0))) (fun H h => ⟨_, h.1, congrArg (fun z => some (Value.int z)) (by simp (disch := omega) only [pk_un])⟩) ?_
    refine mw_steps X 2 (pc' := 52) (lv' := [(4, .int (W (16))), (3, .ref (b + 15)), (0, .ref b), (1, .int (nI 0)), (2, .int (nI p))]) (st' := [.int (nI 0), .int (nI 0), .int (W (0)), .int (nI p), .int (W (16)), .int (nI 0), .ref (b + 5)]) rfl ?_
    refine mw_cV6v X kd_X2_add kv_X2_add kl_X3_65 (ci := 2) rfl rfl (Nat.le_of_ble_eq_true rfl) ⟨Nat.le_of_ble_eq_true rfl, Nat.le_of_ble_eq_true rfl⟩ ⟨Nat.le_of_ble_eq_true rfl, Nat.le_of_ble_eq_true rfl⟩ (ws_sub 5 (by omega)) (fun H h => ⟨h.o_asked, y3_add hb h (by rw [show (upd W (16) ((W (16)) + (nI 1))) 13 = W (13) from (by simp (disch := omega) only [pk_un])]; exact (ml_i13 hc)) (by rw [((congrArg mo_n (by simp (disch := omega) only [pk_un])).trans hnn)]; omega)⟩) ?_
    refine mw_steps X 1 (pc' := 57) (lv' := [(4, .int (W (16))), (3, .ref (b + 15)), (0, .ref b), (1, .int (nI 0)), (2, .int (nI p))]) (st' := [.int (W (16))]) rfl ?_
    exact mw_iret X rfl rfl (fun H h => ⟨rfl, by rw [show mo_ask W 0 p = upd (mo_put (upd W (16) ((W (16)) + (nI 1))) (507 + 5 * mo_n ((upd W (16) ((W (16)) + (nI 1))) 13)) 5 (mo_r5 (nI 0) (W (16)) (nI p) (W (0)) (nI 0))) 13 ((upd W (16) ((W (16)) + (nI 1))) 13 + nI 1) from ml_askc_add (by omega) (by rw [hn, nI_eq (by omega) (by omega)]; omega)]; exact h⟩)
  · have hn6 : n = 6 := by have := of_decide_eq_true (mo_b_nz c27); omega
    have hq : mo_rm (upd W 16 (W 16 + nI 1)) 507 5 13 0 13 = nI 5 := by rw [ml_rma_q (n := 6) (by rw [pk_un (by omega), hn, hn6]) (by omega)]
    have hq0 : mo_rm (upd W 16 (W 16 + nI 1)) 507 5 13 0 0 = W 0 := by rw [ml_rma_out (n := 6) (by rw [pk_un (by omega), hn, hn6]) (by omega) (by omega) (by omega) (by omega), pk_un (by omega)]
    refine mw_steps X 1 (pc' := 31) (lv' := [(4, .int (W (16))), (3, .ref (b + 15)), (0, .ref b), (1, .int (nI 0)), (2, .int (nI p))]) (st' := [.ref b]) rfl ?_
    refine mw_get X kf_X3_23.fl kc_3 rfl (v := .ref (b + 5)) (fun H h => ⟨_, h.1, rfl⟩) ?_
    refine mw_steps X 1 (pc' := 35) (lv' := [(4, .int (W (16))), (3, .ref (b + 15)), (0, .ref b), (1, .int (nI 0)), (2, .int (nI p))]) (st' := [.int (nI 0), .ref (b + 5)]) rfl ?_
    refine mw_cV1v X kd_X2_drop kv_X2_drop kl_X3_139 (ci := 2) rfl rfl (Nat.le_of_ble_eq_true rfl) ⟨Nat.le_of_ble_eq_true rfl, Nat.le_of_ble_eq_true rfl⟩ ⟨Nat.le_of_ble_eq_true rfl, Nat.le_of_ble_eq_true rfl⟩ (ws_sub 5 (by omega)) (fun H h => ⟨h.o_asked, y3_drop hb h (by rw [show (upd W (16) ((W (16)) + (nI 1))) 13 = W (13) from (by simp (disch := omega) only [pk_un])]; exact (ml_i13 hc)) (by rw [((congrArg mo_n (by simp (disch := omega) only [pk_un])).trans hnn)]; omega)⟩) ?_
    refine mw_steps X 1 (pc' := 39) (lv' := [(4, .int (W (16))), (3, .ref (b + 15)), (0, .ref b), (1, .int (nI 0)), (2, .int (nI p))]) (st' := [.ref b]) rfl ?_
    refine mw_get X kf_X3_23.fl kc_3 rfl (v := .ref (b + 5)) (fun H h => ⟨_, h.1, rfl⟩) ?_
    refine mw_steps X 4 (pc' := 47) (lv' := [(4, .int (W (16))), (3, .ref (b + 15)), (0, .ref b), (1, .int (nI 0)), (2, .int (nI p))]) (st' := [.ref b, .int (nI p), .int (W (16)), .int (nI 0), .ref (b + 5)]) rfl ?_
    refine mw_get X kf_X3_89.fl kc_3 rfl (v := .int (W 0)) (fun H h => ⟨_, h.1, congrArg (fun z => some (Value.int z)) hq0⟩) ?_
    refine mw_steps X 2 (pc' := 52) (lv' := [(4, .int (W (16))), (3, .ref (b + 15)), (0, .ref b), (1, .int (nI 0)), (2, .int (nI p))]) (st' := [.int (nI 0), .int (nI 0), .int (W 0), .int (nI p), .int (W (16)), .int (nI 0), .ref (b + 5)]) rfl ?_
    refine mw_cV6v X kd_X2_add kv_X2_add kl_X3_65 (ci := 2) rfl rfl (Nat.le_of_ble_eq_true rfl) ⟨Nat.le_of_ble_eq_true rfl, Nat.le_of_ble_eq_true rfl⟩ ⟨Nat.le_of_ble_eq_true rfl, Nat.le_of_ble_eq_true rfl⟩ (ws_sub 5 (by omega)) (fun H h => ⟨h.o_asked, y3_add hb h (by rw [hq]; rfl) (by rw [(show mo_n (mo_rm (upd W 16 (W 16 + nI 1)) 507 5 13 0 13) = 5 by rw [hq]; rfl)]; omega)⟩) ?_
    refine mw_steps X 1 (pc' := 57) (lv' := [(4, .int (W (16))), (3, .ref (b + 15)), (0, .ref b), (1, .int (nI 0)), (2, .int (nI p))]) (st' := [.int (W (16))]) rfl ?_
    exact mw_iret X rfl rfl (fun H h => ⟨rfl, by rw [show mo_ask W 0 p = upd (mo_put (mo_rm (upd W (16) ((W (16)) + (nI 1))) 507 5 13 0) (507 + 5 * mo_n ((mo_rm (upd W (16) ((W (16)) + (nI 1))) 507 5 13 0) 13)) 5 (mo_r5 (nI 0) (W (16)) (nI p) (W 0) (nI 0))) 13 ((mo_rm (upd W (16) ((W (16)) + (nI 1))) 507 5 13 0) 13 + nI 1) from ml_askc_full (by omega) (by rw [hn, hn6])]; exact h⟩)
set_option maxHeartbeats 4000000 in
set_option maxRecDepth 20000 in
theorem zw_ask1 {l : Launch} {Γ : mw_C} {b : Nat} (hb : Γ.2.2.2 ≤ b) {W : Nat → Int32} {sd : Int32} {H : Heap} {p : Nat} (hH : ws_I Γ b W sd H) (hc : iv_c W) : mw_Cr l Γ mX3_challenges 2 0 0 (ws_A b) [.ref b, .int (nI 1), .int (nI p)] H (some (.int (W 17))) (ws_I Γ b (mo_ask W 1 p) sd) := by
  obtain ⟨n, hn2, hn⟩ := hc.2.2
  have hnn : mo_n (W 13) = n := by rw [hn, ml_n (by omega)]
  refine mw_ofG (P := pX3_challenges) (by decide) (ws_As hb) oX3_challenges (Nat.le_of_ble_eq_true rfl) ?_
  intro pg e0 sg mg below meth cd X hs
  refine mw_pre (I' := ws_I Γ b W sd) (fun H1 h1 => by rw [h1]; exact hH) ?_
  refine mw_steps X 2 (pc' := 2) (lv' := [(0, .ref b), (1, .int (nI 1)), (2, .int (nI p))]) (st' := [.int (nI 1), .ref b]) rfl ?_
  refine mw_cV1r X kd_X3_endOf kv_X3_endOf kl_X3_142 (ci := 3) rfl rfl (Nat.le_of_ble_eq_true rfl) ⟨Nat.le_of_ble_eq_true rfl, Nat.le_of_ble_eq_true rfl⟩ ⟨Nat.le_of_ble_eq_true rfl, Nat.le_of_ble_eq_true rfl⟩ (fun _ h => h) (fun H h => ⟨⟨_, h.1⟩, zw_endOf1 hb h⟩) ?_
  refine mw_steps X 2 (pc' := 7) (lv' := [(3, .ref (b + 20)), (0, .ref b), (1, .int (nI 1)), (2, .int (nI p))]) (st' := [.ref (b + 20)]) rfl ?_
  refine mw_get X kf_X3_166 kc_0 rfl (v := .int (W (17))) (fun H h => ⟨_, h.2.2.2.2.2.2.2.2.2.2.2.1, congrArg (fun z => some (Value.int z)) rfl⟩) ?_
  refine mw_steps X 5 (pc' := 17) (lv' := [(4, .int (W (17))), (3, .ref (b + 20)), (0, .ref b), (1, .int (nI 1)), (2, .int (nI p))]) (st' := [.int ((W (17)) + (nI 1)), .ref (b + 20)]) rfl ?_
  refine mw_put X kf_X3_166 kc_0 ⟨_, _, _, .int, rfl, rfl, by decide, rfl, rfl⟩ rfl (I1 := ws_I Γ b (upd W (17) ((W (17)) + (nI 1))) sd) (fun H h => ⟨ws_A0 (by omega), _, h.2.2.2.2.2.2.2.2.2.2.2.1, Nat.le_of_ble_eq_true rfl, fun H1 o c => h.s17 o c⟩) ?_
  refine mw_steps X 1 (pc' := 21) (lv' := [(4, .int (W (17))), (3, .ref (b + 20)), (0, .ref b), (1, .int (nI 1)), (2, .int (nI p))]) (st' := [.ref b]) rfl ?_
  refine mw_get X kf_X3_23.fl kc_3 rfl (v := .ref (b + 5)) (fun H h => ⟨_, h.1, rfl⟩) ?_
  refine mw_cV0r X kd_X2_isFull kv_X2_isFull kl_X3_135 (ci := 2) rfl rfl (Nat.le_of_ble_eq_true rfl) ⟨Nat.le_of_ble_eq_true rfl, Nat.le_of_ble_eq_true rfl⟩ ⟨Nat.le_of_ble_eq_true rfl, Nat.le_of_ble_eq_true rfl⟩ (ws_sub 5 (by omega)) (fun H h => ⟨h.o_asked, y3_isFull hb h⟩) ?_
  refine mw_top (y := mo_b (decide (6 ≤ n))) (congrArg (fun z => mo_b (decide (6 ≤ z))) ((congrArg mo_n (by simp (disch := omega) only [pk_un])).trans hnn)) ?_
  refine mw_if_eq X 38 rfl rfl (fun c27 => ?_) (fun c27 => ?_)
  · have hn6 : ¬ 6 ≤ n := of_decide_eq_false (mo_b_z c27)
    refine mw_steps X 1 (pc' := 39) (lv' := [(4, .int (W (17))), (3, .ref (b + 20)), (0, .ref b), (1, .int (nI 1)), (2, .int (nI p))]) (st' := [.ref b]) rfl ?_
    refine mw_get X kf_X3_23.fl kc_3 rfl (v := .ref (b + 5)) (fun H h => ⟨_, h.1, rfl⟩) ?_
    refine mw_steps X 4 (pc' := 47) (lv' := [(4, .int (W (17))), (3, .ref (b + 20)), (0, .ref b), (1, .int (nI 1)), (2, .int (nI p))]) (st' := [.ref b, .int (nI p), .int (W (17)), .int (nI 1), .ref (b + 5)]) rfl ?_
    refine mw_get X kf_X3_89.fl kc_3 rfl (v := .int (W (0))) (fun H h => ⟨_, h.1, congrArg (fun z => some (Value.int z)) (by simp (disch := omega) only [pk_un])⟩) ?_
    refine mw_steps X 2 (pc' := 52) (lv' := [(4, .int (W (17))), (3, .ref (b + 20)), (0, .ref b), (1, .int (nI 1)), (2, .int (nI p))]) (st' := [.int (nI 0), .int (nI 0), .int (W (0)), .int (nI p), .int (W (17)), .int (nI 1), .ref (b + 5)]) rfl ?_
    refine mw_cV6v X kd_X2_add kv_X2_add kl_X3_65 (ci := 2) rfl rfl (Nat.le_of_ble_eq_true rfl) ⟨Nat.le_of_ble_eq_true rfl, Nat.le_of_ble_eq_true rfl⟩ ⟨Nat.le_of_ble_eq_true rfl, Nat.le_of_ble_eq_true rfl⟩ (ws_sub 5 (by omega)) (fun H h => ⟨h.o_asked, y3_add hb h (by rw [show (upd W (17) ((W (17)) + (nI 1))) 13 = W (13) from (by simp (disch := omega) only [pk_un])]; exact (ml_i13 hc)) (by rw [((congrArg mo_n (by simp (disch := omega) only [pk_un])).trans hnn)]; omega)⟩) ?_
    refine mw_steps X 1 (pc' := 57) (lv' := [(4, .int (W (17))), (3, .ref (b + 20)), (0, .ref b), (1, .int (nI 1)), (2, .int (nI p))]) (st' := [.int (W (17))]) rfl ?_
    exact mw_iret X rfl rfl (fun H h => ⟨rfl, by rw [show mo_ask W 1 p = upd (mo_put (upd W (17) ((W (17)) + (nI 1))) (507 + 5 * mo_n ((upd W (17) ((W (17)) + (nI 1))) 13)) 5 (mo_r5 (nI 1) (W (17)) (nI p) (W (0)) (nI 0))) 13 ((upd W (17) ((W (17)) + (nI 1))) 13 + nI 1) from ml_askc_add (by omega) (by rw [hn, nI_eq (by omega) (by omega)]; omega)]; exact h⟩)
  · have hn6 : n = 6 := by have := of_decide_eq_true (mo_b_nz c27); omega
    have hq : mo_rm (upd W 17 (W 17 + nI 1)) 507 5 13 0 13 = nI 5 := by rw [ml_rma_q (n := 6) (by rw [pk_un (by omega), hn, hn6]) (by omega)]
    have hq0 : mo_rm (upd W 17 (W 17 + nI 1)) 507 5 13 0 0 = W 0 := by rw [ml_rma_out (n := 6) (by rw [pk_un (by omega), hn, hn6]) (by omega) (by omega) (by omega) (by omega), pk_un (by omega)]
    refine mw_steps X 1 (pc' := 31) (lv' := [(4, .int (W (17))), (3, .ref (b + 20)), (0, .ref b), (1, .int (nI 1)), (2, .int (nI p))]) (st' := [.ref b]) rfl ?_
    refine mw_get X kf_X3_23.fl kc_3 rfl (v := .ref (b + 5)) (fun H h => ⟨_, h.1, rfl⟩) ?_
    refine mw_steps X 1 (pc' := 35) (lv' := [(4, .int (W (17))), (3, .ref (b + 20)), (0, .ref b), (1, .int (nI 1)), (2, .int (nI p))]) (st' := [.int (nI 0), .ref (b + 5)]) rfl ?_
    refine mw_cV1v X kd_X2_drop kv_X2_drop kl_X3_139 (ci := 2) rfl rfl (Nat.le_of_ble_eq_true rfl) ⟨Nat.le_of_ble_eq_true rfl, Nat.le_of_ble_eq_true rfl⟩ ⟨Nat.le_of_ble_eq_true rfl, Nat.le_of_ble_eq_true rfl⟩ (ws_sub 5 (by omega)) (fun H h => ⟨h.o_asked, y3_drop hb h (by rw [show (upd W (17) ((W (17)) + (nI 1))) 13 = W (13) from (by simp (disch := omega) only [pk_un])]; exact (ml_i13 hc)) (by rw [((congrArg mo_n (by simp (disch := omega) only [pk_un])).trans hnn)]; omega)⟩) ?_
    refine mw_steps X 1 (pc' := 39) (lv' := [(4, .int (W (17))), (3, .ref (b + 20)), (0, .ref b), (1, .int (nI 1)), (2, .int (nI p))]) (st' := [.ref b]) rfl ?_
    refine mw_get X kf_X3_23.fl kc_3 rfl (v := .ref (b + 5)) (fun H h => ⟨_, h.1, rfl⟩) ?_
    refine mw_steps X 4 (pc' := 47) (lv' := [(4, .int (W (17))), (3, .ref (b + 20)), (0, .ref b), (1, .int (nI 1)), (2, .int (nI p))]) (st' := [.ref b, .int (nI p), .int (W (17)), .int (nI 1), .ref (b + 5)]) rfl ?_
    refine mw_get X kf_X3_89.fl kc_3 rfl (v := .int (W 0)) (fun H h => ⟨_, h.1, congrArg (fun z => some (Value.int z)) hq0⟩) ?_
    refine mw_steps X 2 (pc' := 52) (lv' := [(4, .int (W (17))), (3, .ref (b + 20)), (0, .ref b), (1, .int (nI 1)), (2, .int (nI p))]) (st' := [.int (nI 0), .int (nI 0), .int (W 0), .int (nI p), .int (W (17)), .int (nI 1), .ref (b + 5)]) rfl ?_
    refine mw_cV6v X kd_X2_add kv_X2_add kl_X3_65 (ci := 2) rfl rfl (Nat.le_of_ble_eq_true rfl) ⟨Nat.le_of_ble_eq_true rfl, Nat.le_of_ble_eq_true rfl⟩ ⟨Nat.le_of_ble_eq_true rfl, Nat.le_of_ble_eq_true rfl⟩ (ws_sub 5 (by omega)) (fun H h => ⟨h.o_asked, y3_add hb h (by rw [hq]; rfl) (by rw [(show mo_n (mo_rm (upd W 17 (W 17 + nI 1)) 507 5 13 0 13) = 5 by rw [hq]; rfl)]; omega)⟩) ?_
    refine mw_steps X 1 (pc' := 57) (lv' := [(4, .int (W (17))), (3, .ref (b + 20)), (0, .ref b), (1, .int (nI 1)), (2, .int (nI p))]) (st' := [.int (W (17))]) rfl ?_
    exact mw_iret X rfl rfl (fun H h => ⟨rfl, by rw [show mo_ask W 1 p = upd (mo_put (mo_rm (upd W (17) ((W (17)) + (nI 1))) 507 5 13 0) (507 + 5 * mo_n ((mo_rm (upd W (17) ((W (17)) + (nI 1))) 507 5 13 0) 13)) 5 (mo_r5 (nI 1) (W (17)) (nI p) (W 0) (nI 0))) 13 ((mo_rm (upd W (17) ((W (17)) + (nI 1))) 507 5 13 0) 13 + nI 1) from ml_askc_full (by omega) (by rw [hn, hn6])]; exact h⟩)
set_option maxHeartbeats 4000000 in
set_option maxRecDepth 20000 in
theorem zw_letOut {l : Launch} {Γ : mw_C} {b : Nat} (hb : Γ.2.2.2 ≤ b) {W : Nat → Int32} {sd : Int32} {H : Heap} {p c : Nat} (hH : ws_I Γ b W sd H) (hv : iv (c + 12) W) (hp : p < 5) : mw_Cr l Γ mX3_letsOut 3 0 0 (ws_A b) [.ref b, .int (nI p)] H none (ws_I Γ b (mo_letOut W p) sd) := by
  obtain ⟨n, hn2, hn⟩ := hv.1.2.1
  have hnn : mo_n (W 12) = n := by rw [hn, ml_n (by omega)]
  refine mw_ofG (P := pX3_letsOut) (by decide) (ws_As hb) oX3_letsOut (Nat.le_of_ble_eq_true rfl) ?_
  intro pg e0 sg mg below meth cd X hs
  refine mw_pre (I' := ws_I Γ b W sd) (fun H1 h1 => by rw [h1]; exact hH) ?_
  refine mw_steps X 3 (pc' := 3) (lv' := [(2, .int (nI 0)), (0, .ref b), (1, .int (nI p))]) (st' := [.ref b]) rfl ?_
  refine mw_get X kf_X3_20.fl kc_3 rfl (v := .ref (b + 3)) (fun H h => ⟨_, h.1, rfl⟩) ?_
  refine mw_cV0r X kd_X2_size kv_X2_size kl_X3_102 (ci := 2) rfl rfl (Nat.le_of_ble_eq_true rfl) ⟨Nat.le_of_ble_eq_true rfl, Nat.le_of_ble_eq_true rfl⟩ ⟨Nat.le_of_ble_eq_true rfl, Nat.le_of_ble_eq_true rfl⟩ (ws_sub 3 (by omega)) (fun H h => ⟨h.o_waiting, y2_size hb h⟩) ?_
  refine mw_top (y := nI n) (congrArg nI hnn) ?_
  refine mw_steps X 1 (pc' := 10) (lv' := [(3, .int (nI n)), (2, .int (nI 0)), (0, .ref b), (1, .int (nI p))]) (st' := []) rfl ?_
  refine mw_wf (σ := (Nat → Int32) × Nat × Nat × Nat) (fun q => q.2.2.1) (fun q => iv (c + q.2.2.1) q.1 ∧ q.1 12 = nI (q.2.1 + q.2.2.1) ∧ q.2.1 + q.2.2.1 ≤ 12 ∧ (∀ j, j < q.2.1 → ¬ q.1 (471 + 3 * j) = nI p) ∧ q.2.2.1 ≤ q.2.2.2 ∧ mo_lo p q.2.2.2 q.1 = mo_letOut W p) (fun q => ws_I Γ b q.1 sd) (fun q => [(3, .int (nI q.2.2.1)), (2, .int (nI q.2.1)), (0, .ref b), (1, .int (nI p))]) (fun q hq ih => ?_) (W, 0, n, n) ⟨hv.less (by dsimp only; omega), by dsimp only; rw [Nat.zero_add]; exact hn, by dsimp only; omega, fun j hj => absurd hj (Nat.not_lt_zero j), Nat.le_refl _, by unfold mo_letOut; rw [hnn]⟩
  obtain ⟨V, k, f, m⟩ := q
  obtain ⟨hv2, hV, h12, hno, hm, hlo⟩ := hq
  dsimp only at hv2 hV h12 hno hm hlo ⊢
  cases f with
  | zero =>
    refine mw_steps X 1 (pc' := 11) (lv' := [(3, .int (nI 0)), (2, .int (nI k)), (0, .ref b), (1, .int (nI p))]) (st' := [.int (nI 0)]) rfl ?_
    refine mw_if_le X 90 rfl rfl (fun c11 => ?_) (fun c11 => absurd (by decide) c11)
    exact mw_vret X rfl rfl (fun H h => ⟨rfl, by rw [← hlo, ml_lo_end (n := k) hV (by omega) hno]; exact h⟩)
  | succ f =>
    have hnV : mo_n (V 12) = k + (f + 1) := by rw [hV, ml_n (by omega)]
    obtain ⟨m, rfl⟩ : ∃ m2, m = m2 + 1 := ⟨m - 1, by omega⟩
    obtain ⟨p2, kd, hp2, hkd6, hq1, hq2, hq3⟩ := hv2.2.2.2.1 k (by omega)
    refine mw_steps X 1 (pc' := 11) (lv' := [(3, .int (nI (f + 1))), (2, .int (nI k)), (0, .ref b), (1, .int (nI p))]) (st' := [.int (nI (f + 1))]) rfl ?_
    refine mw_if_le X 90 rfl rfl (fun c11 => absurd c11 (nI_nle (by omega) (by omega))) (fun c11 => ?_)
    refine mw_steps X 1 (pc' := 15) (lv' := [(3, .int (nI (f + 1))), (2, .int (nI k)), (0, .ref b), (1, .int (nI p))]) (st' := [.ref b]) rfl ?_
    refine mw_get X kf_X3_20.fl kc_3 rfl (v := .ref (b + 3)) (fun H h => ⟨_, h.1, rfl⟩) ?_
    refine mw_steps X 2 (pc' := 20) (lv' := [(3, .int (nI (f + 1))), (2, .int (nI k)), (0, .ref b), (1, .int (nI p))]) (st' := [.int (nI 0), .int (nI k), .ref (b + 3)]) rfl ?_
    refine mw_cV2r X kd_X2_at kv_X2_at kl_X3_98 (ci := 2) rfl rfl (Nat.le_of_ble_eq_true rfl) ⟨Nat.le_of_ble_eq_true rfl, Nat.le_of_ble_eq_true rfl⟩ ⟨Nat.le_of_ble_eq_true rfl, Nat.le_of_ble_eq_true rfl⟩ (ws_sub 3 (by omega)) (fun H h => ⟨h.o_waiting, y2_at0 hb h (by rw [hnV]; omega)⟩) ?_
    refine mw_steps X 1 (pc' := 24) (lv' := [(3, .int (nI (f + 1))), (2, .int (nI k)), (0, .ref b), (1, .int (nI p))]) (st' := [.int (nI p), .int (V (471 + 3 * k))]) rfl ?_
    refine mw_icmp_eq X 33 rfl rfl (fun c24 => ?_) (fun c24 => ?_)
    · refine mw_steps X 1 (pc' := 34) (lv' := [(3, .int (nI (f + 1))), (2, .int (nI k)), (0, .ref b), (1, .int (nI p))]) (st' := [.ref b]) rfl ?_
      refine mw_get X kf_X3_20.fl kc_3 rfl (v := .ref (b + 3)) (fun H h => ⟨_, h.1, rfl⟩) ?_
      refine mw_steps X 2 (pc' := 39) (lv' := [(3, .int (nI (f + 1))), (2, .int (nI k)), (0, .ref b), (1, .int (nI p))]) (st' := [.int (nI 1), .int (nI k), .ref (b + 3)]) rfl ?_
      refine mw_cV2r X kd_X2_at kv_X2_at kl_X3_98 (ci := 2) rfl rfl (Nat.le_of_ble_eq_true rfl) ⟨Nat.le_of_ble_eq_true rfl, Nat.le_of_ble_eq_true rfl⟩ ⟨Nat.le_of_ble_eq_true rfl, Nat.le_of_ble_eq_true rfl⟩ (ws_sub 3 (by omega)) (fun H h => ⟨h.o_waiting, y2_at1 hb h (by rw [hnV]; omega)⟩) ?_
      refine mw_top (y := nI kd) hq2 ?_
      refine mw_steps X 2 (pc' := 45) (lv' := [(4, .int (nI kd)), (3, .int (nI (f + 1))), (2, .int (nI k)), (0, .ref b), (1, .int (nI p))]) (st' := [.ref b]) rfl ?_
      refine mw_get X kf_X3_20.fl kc_3 rfl (v := .ref (b + 3)) (fun H h => ⟨_, h.1, rfl⟩) ?_
      refine mw_steps X 2 (pc' := 50) (lv' := [(4, .int (nI kd)), (3, .int (nI (f + 1))), (2, .int (nI k)), (0, .ref b), (1, .int (nI p))]) (st' := [.int (nI 2), .int (nI k), .ref (b + 3)]) rfl ?_
      refine mw_cV2r X kd_X2_at kv_X2_at kl_X3_98 (ci := 2) rfl rfl (Nat.le_of_ble_eq_true rfl) ⟨Nat.le_of_ble_eq_true rfl, Nat.le_of_ble_eq_true rfl⟩ ⟨Nat.le_of_ble_eq_true rfl, Nat.le_of_ble_eq_true rfl⟩ (ws_sub 3 (by omega)) (fun H h => ⟨h.o_waiting, y2_at2 hb h (by rw [hnV]; omega)⟩) ?_
      refine mw_steps X 4 (pc' := 59) (lv' := [(5, .int (V (471 + 3 * k + 2))), (4, .int (nI kd)), (3, .int (nI (f + 1))), (2, .int (nI k)), (0, .ref b), (1, .int (nI p))]) (st' := [.int (nI kd), .int (nI p), .ref b]) rfl ?_
      refine mw_cV2r X kd_X3_mayGo kv_X3_mayGo kl_X3_127 (ci := 3) rfl rfl (Nat.le_of_ble_eq_true rfl) ⟨Nat.le_of_ble_eq_true rfl, Nat.le_of_ble_eq_true rfl⟩ ⟨Nat.le_of_ble_eq_true rfl, Nat.le_of_ble_eq_true rfl⟩ (fun _ h => h) (fun H h => ⟨⟨_, h.1⟩, zw_may hb h hp hkd6⟩) ?_
      refine mw_if_ne X 66 rfl rfl (fun c62 => ?_) (fun c62 => ?_)
      · refine mw_steps X 1 (pc' := 67) (lv' := [(5, .int (V (471 + 3 * k + 2))), (4, .int (nI kd)), (3, .int (nI (f + 1))), (2, .int (nI k)), (0, .ref b), (1, .int (nI p))]) (st' := [.ref b]) rfl ?_
        refine mw_get X kf_X3_20.fl kc_3 rfl (v := .ref (b + 3)) (fun H h => ⟨_, h.1, rfl⟩) ?_
        refine mw_steps X 1 (pc' := 71) (lv' := [(5, .int (V (471 + 3 * k + 2))), (4, .int (nI kd)), (3, .int (nI (f + 1))), (2, .int (nI k)), (0, .ref b), (1, .int (nI p))]) (st' := [.int (nI k), .ref (b + 3)]) rfl ?_
        refine mw_cV1v X kd_X2_drop kv_X2_drop kl_X3_139 (ci := 2) rfl rfl (Nat.le_of_ble_eq_true rfl) ⟨Nat.le_of_ble_eq_true rfl, Nat.le_of_ble_eq_true rfl⟩ ⟨Nat.le_of_ble_eq_true rfl, Nat.le_of_ble_eq_true rfl⟩ (ws_sub 3 (by omega)) (fun H h => ⟨h.o_waiting, y2_drop hb h (ml_i12 hv2.1) (by rw [hnV]; omega)⟩) ?_
        refine mw_steps X 5 (pc' := 81) (lv' := [(5, .int (V (471 + 3 * k + 2))), (4, .int (nI kd)), (3, .int (nI (f + 1))), (2, .int (nI k)), (0, .ref b), (1, .int (nI p))]) (st' := [.int (V (471 + 3 * k + 2)), .int (nI kd), .int (nI p), .int (nI 1), .ref b]) rfl ?_
        refine mw_cV4v X kd_X3_sends kv_X3_sends kl_X3_131 (ci := 3) rfl rfl (Nat.le_of_ble_eq_true rfl) ⟨Nat.le_of_ble_eq_true rfl, Nat.le_of_ble_eq_true rfl⟩ ⟨Nat.le_of_ble_eq_true rfl, Nat.le_of_ble_eq_true rfl⟩ (fun _ h => h) (fun H h => ⟨⟨_, h.1⟩, zw_send1 hb h (iv_rmh hv2 (by omega)).1 hp hkd6⟩) ?_
        refine mw_steps X 2 (pc' := 10) (lv' := [(3, .int ((nI (f + 1)) + (-1))), (5, .int (V (471 + 3 * k + 2))), (4, .int (nI kd)), (2, .int (nI k)), (0, .ref b), (1, .int (nI p))]) (st' := []) rfl ?_
        have hr : V (471 + 3 * k) = nI p := c24
        have hs : mo_lo p (m + 1) V = _ := ml_lo_step hV (by omega) (by omega) hno hr hq2 hkd6 (mo_b_nz c62)
        have hiv := iv_rmh hv2 (k := k) (by omega)
        have hcv := hiv.1
        have h12b : mo_rm V 471 3 12 k 12 = nI (k + f) := by rw [ml_rmh_q hV (by omega)]; rfl
        refine mw_lvs [0, 3, 4, 5] (lv' := [(3, .int ((nI (f + 1)) + (-1))), (2, .int (nI k)), (0, .ref b), (1, .int (nI p))]) rfl ?_
        refine mw_lveq (lv' := [(3, .int (nI f)), (2, .int (nI k)), (0, .ref b), (1, .int (nI p))]) (by rw [pk_m1]) ?_
        exact ih (mo_send (mo_rm V 471 3 12 k) 1 p kd (V (471 + 3 * k + 2)), k, f, m) ⟨iv_send (c := c + f) hiv (by omega) hp hkd6 hq3, by dsimp only; rw [ml_send_12 hcv (by omega) hp]; exact h12b, by dsimp only; omega, fun j hj => by dsimp only at hj ⊢; rw [ml_send_out hcv hp (by omega) (by omega) (by omega) (by omega), ml_rmh_out hV (by omega) (by omega) (by omega) (by omega)]; exact hno j hj, by dsimp only; omega, by dsimp only; rw [← hs]; exact hlo⟩ (by dsimp only; omega)
      · exact mw_vret X rfl rfl (fun H h => ⟨rfl, by rw [← hlo, ml_lo_stop hV (by omega) (by omega) hno c24 hq2 hkd6 (mo_b_z c62)]; exact h⟩)
    · refine mw_steps X 4 (pc' := 10) (lv' := [(3, .int ((nI (f + 1)) + (-1))), (2, .int ((nI k) + (nI 1))), (0, .ref b), (1, .int (nI p))]) (st' := []) rfl ?_
      refine mw_lvs [0, 1, 2, 3] (lv' := [(3, .int ((nI (f + 1)) + (-1))), (2, .int ((nI k) + (nI 1))), (0, .ref b), (1, .int (nI p))]) rfl ?_
      refine mw_lveq (lv' := [(3, .int (nI f)), (2, .int (nI (k + 1))), (0, .ref b), (1, .int (nI p))]) (by rw [pk_m1, nI_add]) ?_
      exact ih (V, k + 1, f, m + 1) ⟨hv2.less (by dsimp only; omega), by dsimp only; rw [hV]; congr 1; omega, by dsimp only; omega, fun j hj => ml_succ (Q := fun j => ¬ V (471 + 3 * j) = nI p) hno c24 j hj, by dsimp only; omega, hlo⟩ (by dsimp only; omega)
set_option maxHeartbeats 4000000 in
set_option maxRecDepth 20000 in
theorem zw_letOutN {l : Launch} {Γ : mw_C} {b : Nat} (hb : Γ.2.2.2 ≤ b) {W : Nat → Int32} {sd : Int32} {H : Heap} {c : Nat} (hH : ws_I Γ b W sd H) (hv : iv c W) : mw_Cr l Γ mX3_letsOut 3 0 0 (ws_A b) [.ref b, .int (-1)] H none (ws_I Γ b W sd) := by
  obtain ⟨n, hn2, hn⟩ := hv.1.2.1
  have hnn : mo_n (W 12) = n := by rw [hn, ml_n (by omega)]
  refine mw_ofG (P := pX3_letsOut) (by decide) (ws_As hb) oX3_letsOut (Nat.le_of_ble_eq_true rfl) ?_
  intro pg e0 sg mg below meth cd X hs
  refine mw_pre (I' := ws_I Γ b W sd) (fun H1 h1 => by rw [h1]; exact hH) ?_
  refine mw_steps X 3 (pc' := 3) (lv' := [(2, .int (nI 0)), (0, .ref b), (1, .int (-1))]) (st' := [.ref b]) rfl ?_
  refine mw_get X kf_X3_20.fl kc_3 rfl (v := .ref (b + 3)) (fun H h => ⟨_, h.1, rfl⟩) ?_
  refine mw_cV0r X kd_X2_size kv_X2_size kl_X3_102 (ci := 2) rfl rfl (Nat.le_of_ble_eq_true rfl) ⟨Nat.le_of_ble_eq_true rfl, Nat.le_of_ble_eq_true rfl⟩ ⟨Nat.le_of_ble_eq_true rfl, Nat.le_of_ble_eq_true rfl⟩ (ws_sub 3 (by omega)) (fun H h => ⟨h.o_waiting, y2_size hb h⟩) ?_
  refine mw_top (y := nI n) (congrArg nI hnn) ?_
  refine mw_steps X 1 (pc' := 10) (lv' := [(3, .int (nI n)), (2, .int (nI 0)), (0, .ref b), (1, .int (-1))]) (st' := []) rfl ?_
  refine mw_wf (σ := Nat × Nat) (fun q => q.2) (fun q => q.1 + q.2 = n) (fun q => ws_I Γ b W sd) (fun q => [(3, .int (nI q.2)), (2, .int (nI q.1)), (0, .ref b), (1, .int (-1))]) (fun q hq ih => ?_) (0, n) (Nat.zero_add n)
  obtain ⟨k, f⟩ := q
  dsimp only at hq ⊢
  cases f with
  | zero =>
    refine mw_steps X 1 (pc' := 11) (lv' := [(3, .int (nI 0)), (2, .int (nI k)), (0, .ref b), (1, .int (-1))]) (st' := [.int (nI 0)]) rfl ?_
    refine mw_if_le X 90 rfl rfl (fun c11 => ?_) (fun c11 => absurd (by decide) c11)
    exact mw_vret X rfl rfl (fun H h => ⟨rfl, h⟩)
  | succ f =>
    obtain ⟨p2, kd, hp2, hkd6, hq1, hq2, hq3⟩ := hv.2.2.2.1 k (by omega)
    refine mw_steps X 1 (pc' := 11) (lv' := [(3, .int (nI (f + 1))), (2, .int (nI k)), (0, .ref b), (1, .int (-1))]) (st' := [.int (nI (f + 1))]) rfl ?_
    refine mw_if_le X 90 rfl rfl (fun c11 => absurd c11 (nI_nle (by omega) (by omega))) (fun c11 => ?_)
    refine mw_steps X 1 (pc' := 15) (lv' := [(3, .int (nI (f + 1))), (2, .int (nI k)), (0, .ref b), (1, .int (-1))]) (st' := [.ref b]) rfl ?_
    refine mw_get X kf_X3_20.fl kc_3 rfl (v := .ref (b + 3)) (fun H h => ⟨_, h.1, rfl⟩) ?_
    refine mw_steps X 2 (pc' := 20) (lv' := [(3, .int (nI (f + 1))), (2, .int (nI k)), (0, .ref b), (1, .int (-1))]) (st' := [.int (nI 0), .int (nI k), .ref (b + 3)]) rfl ?_
    refine mw_cV2r X kd_X2_at kv_X2_at kl_X3_98 (ci := 2) rfl rfl (Nat.le_of_ble_eq_true rfl) ⟨Nat.le_of_ble_eq_true rfl, Nat.le_of_ble_eq_true rfl⟩ ⟨Nat.le_of_ble_eq_true rfl, Nat.le_of_ble_eq_true rfl⟩ (ws_sub 3 (by omega)) (fun H h => ⟨h.o_waiting, y2_at0 hb h (by rw [hnn]; omega)⟩) ?_
    refine mw_steps X 1 (pc' := 24) (lv' := [(3, .int (nI (f + 1))), (2, .int (nI k)), (0, .ref b), (1, .int (-1))]) (st' := [.int (-1), .int (W (471 + 3 * k))]) rfl ?_
    refine mw_icmp_eq X 33 rfl rfl (fun c24 => absurd c24 (by rw [hq1]; exact fun q => nI_pos (n := p2) (by omega) (by rw [q]; decide))) (fun c24 => ?_)
    refine mw_steps X 4 (pc' := 10) (lv' := [(3, .int ((nI (f + 1)) + (-1))), (2, .int ((nI k) + (nI 1))), (0, .ref b), (1, .int (-1))]) (st' := []) rfl ?_
    refine mw_lveq (lv' := [(3, .int (nI f)), (2, .int (nI (k + 1))), (0, .ref b), (1, .int (-1))]) (by rw [pk_m1, nI_add]) ?_
    exact ih (k + 1, f) (by dsimp only; omega) (by dsimp only; omega)
set_option maxHeartbeats 4000000 in
set_option maxRecDepth 20000 in
theorem zw_drop {l : Launch} {Γ : mw_C} {b : Nat} (hb : Γ.2.2.2 ≤ b) {W : Nat → Int32} {sd : Int32} {H : Heap} {p : Nat} (hH : ws_I Γ b W sd H) (hc : iv_c W) (hp : p < 5) : mw_Cr l Γ mX3_dropsHeldOf 2 0 0 (ws_A b) [.ref b, .int (nI p)] H none (ws_I Γ b (mo_drop W p) sd) := by
  obtain ⟨n, hn2, hn⟩ := hc.2.1
  have hnn : mo_n (W 12) = n := by rw [hn, ml_n (by omega)]
  have hlen : (hl W).length = n := by rw [hl_len, hnn]
  refine mw_ofG (P := pX3_dropsHeldOf) (by decide) (ws_As hb) oX3_dropsHeldOf (Nat.le_of_ble_eq_true rfl) ?_
  intro pg e0 sg mg below meth cd X hs
  refine mw_pre (I' := ws_I Γ b W sd) (fun H1 h1 => by rw [h1]; exact hH) ?_
  refine mw_steps X 1 (pc' := 1) (lv' := [(0, .ref b), (1, .int (nI p))]) (st' := [.ref b]) rfl ?_
  refine mw_get X kf_X3_20.fl kc_3 rfl (v := .ref (b + 3)) (fun H h => ⟨_, h.1, rfl⟩) ?_
  refine mw_cV0r X kd_X2_size kv_X2_size kl_X3_102 (ci := 2) rfl rfl (Nat.le_of_ble_eq_true rfl) ⟨Nat.le_of_ble_eq_true rfl, Nat.le_of_ble_eq_true rfl⟩ ⟨Nat.le_of_ble_eq_true rfl, Nat.le_of_ble_eq_true rfl⟩ (ws_sub 3 (by omega)) (fun H h => ⟨h.o_waiting, y2_size hb h⟩) ?_
  refine mw_top (y := nI n) (congrArg nI hnn) ?_
  refine mw_steps X 3 (pc' := 10) (lv' := [(2, .int ((nI n) - (nI 1))), (0, .ref b), (1, .int (nI p))]) (st' := []) rfl ?_
  refine mw_wf (σ := (Nat → Int32) × Nat) (fun q => q.2) (fun q => iv_c q.1 ∧ q.2 ≤ n ∧ hl q.1 = (hl W).take q.2 ++ ((hl W).drop q.2).filter (fun r => !decide (r.1 = nI p)) ∧ ∀ j, ¬ (j = 12 ∨ (471 ≤ j ∧ j < 507)) → q.1 j = W j) (fun q => ws_I Γ b q.1 sd) (fun q => [(2, .int (nI q.2 - nI 1)), (0, .ref b), (1, .int (nI p))]) (fun q hq ih => ?_) (W, n) ⟨hc, Nat.le_refl _, by dsimp only; rw [← hlen, List.take_length, List.drop_length]; simp, fun _ _ => rfl⟩
  obtain ⟨V, t⟩ := q
  obtain ⟨hcV, ht, hlV, hout⟩ := hq
  dsimp only at hcV ht hlV hout ⊢
  cases t with
  | zero =>
    have hcD : iv_c (mo_drop W p) := by unfold mo_drop; exact ivc_dh _ _ hc
    refine mw_steps X 1 (pc' := 11) (lv' := [(2, .int (nI 0 - nI 1)), (0, .ref b), (1, .int (nI p))]) (st' := [.int (nI 0 - nI 1)]) rfl ?_
    refine mw_if_lt X 41 rfl rfl (fun c11 => ?_) (fun c11 => absurd (by decide) c11)
    exact mw_vret X rfl rfl (fun H h => ⟨rfl, h.hl hcV hcD (by rw [hlV]; unfold mo_drop; rw [hl_dh _ _ hc (Nat.le_refl _)]; simp) (fun j hj => by unfold mo_drop; rw [ml_dh_out _ _ _ hc (by omega) (by omega)]; exact (hout j hj).symm)⟩)
  | succ t =>
    refine mw_lveq (lv' := [(2, .int (nI t)), (0, .ref b), (1, .int (nI p))]) (by rw [ml_pred (by omega)]; rfl) ?_
    have htl : t < (hl W).length := by omega
    have hVl : t < (hl V).length := by rw [hlV, List.length_append, List.length_take]; omega
    have hVn : t < mo_n (V 12) := by rw [← hl_len]; exact hVl
    have hV12 := ml_n12 hcV
    have hrow : (hl W)[t] = hl_row V t := by
      rw [← hl_get hVl]
      simp only [hlV]
      rw [List.getElem_append_left (by rw [List.length_take]; omega), List.getElem_take]
    refine mw_steps X 1 (pc' := 11) (lv' := [(2, .int (nI t)), (0, .ref b), (1, .int (nI p))]) (st' := [.int (nI t)]) rfl ?_
    refine mw_if_lt X 41 rfl rfl (fun c11 => absurd c11 (nI_pos (by omega))) (fun c11 => ?_)
    refine mw_steps X 1 (pc' := 15) (lv' := [(2, .int (nI t)), (0, .ref b), (1, .int (nI p))]) (st' := [.ref b]) rfl ?_
    refine mw_get X kf_X3_20.fl kc_3 rfl (v := .ref (b + 3)) (fun H h => ⟨_, h.1, rfl⟩) ?_
    refine mw_steps X 2 (pc' := 20) (lv' := [(2, .int (nI t)), (0, .ref b), (1, .int (nI p))]) (st' := [.int (nI 0), .int (nI t), .ref (b + 3)]) rfl ?_
    refine mw_cV2r X kd_X2_at kv_X2_at kl_X3_98 (ci := 2) rfl rfl (Nat.le_of_ble_eq_true rfl) ⟨Nat.le_of_ble_eq_true rfl, Nat.le_of_ble_eq_true rfl⟩ ⟨Nat.le_of_ble_eq_true rfl, Nat.le_of_ble_eq_true rfl⟩ (ws_sub 3 (by omega)) (fun H h => ⟨h.o_waiting, y2_at0 hb h hVn⟩) ?_
    refine mw_steps X 1 (pc' := 24) (lv' := [(2, .int (nI t)), (0, .ref b), (1, .int (nI p))]) (st' := [.int (nI p), .int (V (471 + 3 * t))]) rfl ?_
    refine mw_icmp_ne X 35 rfl rfl (fun c24 => ?_) (fun c24 => ?_)
    · refine mw_steps X 2 (pc' := 10) (lv' := [(2, .int ((nI t) + (-1))), (0, .ref b), (1, .int (nI p))]) (st' := []) rfl ?_
      refine mw_lveq (lv' := [(2, .int (nI t - nI 1)), (0, .ref b), (1, .int (nI p))]) (by rw [ml_m1]) ?_
      exact ih (V, t) ⟨hcV, by dsimp only; omega, by dsimp only; rw [hlV]; exact ls_keep (fun r => !decide (r.1 = nI p)) _ _ htl (by rw [hrow]; show (!decide (V (471 + 3 * t) = nI p)) = true; rw [decide_eq_false c24]; rfl), hout⟩ (by dsimp only; omega)
    · refine mw_steps X 1 (pc' := 28) (lv' := [(2, .int (nI t)), (0, .ref b), (1, .int (nI p))]) (st' := [.ref b]) rfl ?_
      refine mw_get X kf_X3_20.fl kc_3 rfl (v := .ref (b + 3)) (fun H h => ⟨_, h.1, rfl⟩) ?_
      refine mw_steps X 1 (pc' := 32) (lv' := [(2, .int (nI t)), (0, .ref b), (1, .int (nI p))]) (st' := [.int (nI t), .ref (b + 3)]) rfl ?_
      refine mw_cV1v X kd_X2_drop kv_X2_drop kl_X3_139 (ci := 2) rfl rfl (Nat.le_of_ble_eq_true rfl) ⟨Nat.le_of_ble_eq_true rfl, Nat.le_of_ble_eq_true rfl⟩ ⟨Nat.le_of_ble_eq_true rfl, Nat.le_of_ble_eq_true rfl⟩ (ws_sub 3 (by omega)) (fun H h => ⟨h.o_waiting, y2_drop hb h (ml_i12 hcV) hVn⟩) ?_
      refine mw_steps X 2 (pc' := 10) (lv' := [(2, .int ((nI t) + (-1))), (0, .ref b), (1, .int (nI p))]) (st' := []) rfl ?_
      refine mw_lveq (lv' := [(2, .int (nI t - nI 1)), (0, .ref b), (1, .int (nI p))]) (by rw [ml_m1]) ?_
      exact ih (mo_rm V 471 3 12 t, t) ⟨ivc_rmh hcV hVn, by dsimp only; omega, by dsimp only; rw [hl_rm (ml_i12 hcV) hV12 hVn, hlV]; exact ls_cut (fun r => !decide (r.1 = nI p)) _ _ htl (by rw [hrow]; show (!decide (V (471 + 3 * t) = nI p)) = false; rw [decide_eq_true c24]; rfl), fun j hj => by dsimp only; rw [ml_rmh_out (ml_i12 hcV) (by omega) hVn (by omega) (by omega)]; exact hout j hj⟩ (by dsimp only; omega)
