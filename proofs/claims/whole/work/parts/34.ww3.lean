set_option maxHeartbeats 4000000 in
set_option maxRecDepth 20000 in
theorem zw_draw {l : Launch} {Γ : mw_C} {b : Nat} (hb : Γ.2.2.2 ≤ b) {W : Nat → Int32} {sd : Int32} {H : Heap} {n : Nat} (hH : ws_I Γ b W sd H) (hs0 : 0 ≤ sd) (h0 : 0 < n) (hn : n < 1000) : mw_Cr l Γ mX3_draw 1 0 0 (ws_A b) [.ref b, .int (nI n)] H (some (.int (mo_draw sd (nI n)))) (ws_I Γ b W (mo_seed sd)) := by
  have hn0 : ¬ nI n = 0 := by rw [← nI_0, nI_eq (by omega) (by omega)]; omega
  refine mw_ofG (P := pX3_draw) (by decide) (ws_As hb) oX3_draw (Nat.le_of_ble_eq_true rfl) ?_
  intro pg e0 sg mg below meth cd X hs
  refine mw_pre (I' := ws_I Γ b W sd) (fun H1 h1 => by rw [h1]; exact hH) ?_
  refine mw_steps X 2 (pc' := 2) (lv' := [(0, .ref b), (1, .int (nI n))]) (st' := [.ref b, .ref b]) rfl ?_
  refine mw_get X kf_X3_95.fl kc_3 rfl (v := .int sd) (fun H h => ⟨_, h.1, rfl⟩) ?_
  refine mw_steps X 1 (pc' := 6) (lv' := [(0, .ref b), (1, .int (nI n))]) (st' := [.long sd.toInt64, .ref b]) rfl ?_
  refine mw_ldc2 X kk_X3_120 rfl ?_
  refine mw_steps X 1 (pc' := 10) (lv' := [(0, .ref b), (1, .int (nI n))]) (st' := [.long (sd.toInt64 * (1103515245)), .ref b]) rfl ?_
  refine mw_ldc2 X kk_X3_122 rfl ?_
  refine mw_steps X 1 (pc' := 14) (lv' := [(0, .ref b), (1, .int (nI n))]) (st' := [.long ((sd.toInt64 * (1103515245)) + (12345)), .ref b]) rfl ?_
  refine mw_ldc2 X kk_X3_124 rfl ?_
  refine mw_steps X 2 (pc' := 19) (lv' := [(0, .ref b), (1, .int (nI n))]) (st' := [.int ((((sd.toInt64 * (1103515245)) + (12345)) &&& (2147483647)).toInt32), .ref b]) rfl ?_
  refine mw_top (y := mo_seed sd) (ml_seedC hs0) ?_
  refine mw_put X kf_X3_95.fl kc_3 ⟨_, _, _, .int, rfl, rfl, by decide, rfl, rfl⟩ rfl (I1 := ws_I Γ b W (mo_seed sd)) (fun H h => ⟨ws_Ab, _, h.1, Nat.le_of_ble_eq_true rfl, fun H1 o c => h.ssd o c⟩) ?_
  refine mw_steps X 1 (pc' := 23) (lv' := [(0, .ref b), (1, .int (nI n))]) (st' := [.int (nI n)]) rfl ?_
  refine mw_if_le X 38 rfl rfl (fun c23 => absurd c23 (nI_nle (by omega) (by omega))) (fun c23 => ?_)
  refine mw_steps X 1 (pc' := 27) (lv' := [(0, .ref b), (1, .int (nI n))]) (st' := [.ref b]) rfl ?_
  refine mw_get X kf_X3_95.fl kc_3 rfl (v := .int (mo_seed sd)) (fun H h => ⟨_, h.1, rfl⟩) ?_
  refine mw_ldc X kk_X3_126 rfl ?_
  refine mw_idiv X (by decide) rfl ?_
  refine mw_steps X 1 (pc' := 34) (lv' := [(0, .ref b), (1, .int (nI n))]) (st' := [.int (nI n), .int ((mo_seed sd) / (nI 65536))]) rfl ?_
  refine mw_irem X hn0 rfl ?_
  refine mw_steps X 1 (pc' := 39) (lv' := [(0, .ref b), (1, .int (nI n))]) (st' := [.int (((mo_seed sd) / (nI 65536)) - ((mo_seed sd) / (nI 65536)) / (nI n) * (nI n))]) rfl ?_
  exact mw_iret X rfl rfl (fun H h => ⟨congrArg (fun z => some (Value.int z)) ml_drawC, h⟩)
set_option maxHeartbeats 4000000 in
set_option maxRecDepth 20000 in
theorem zw_settled {l : Launch} {Γ : mw_C} {b : Nat} (hb : Γ.2.2.2 ≤ b) {W : Nat → Int32} {sd : Int32} {H : Heap} {c : Nat} (hH : ws_I Γ b W sd H) (hv : iv c W) : mw_Cr l Γ mX3_isSettled 4 0 0 (ws_A b) [.ref b] H (some (.int (mo_b (mo_settled W)))) (ws_I Γ b W sd) := by
  obtain ⟨cu, hcu5, hcu⟩ := ml_c2 hv
  obtain ⟨r, hr2, hr⟩ := hv.1.1
  have hrn : mo_n (W 11) = r := by rw [hr, ml_n (by omega)]
  obtain ⟨n, hn2, hn⟩ := hv.1.2.1
  have hnn : mo_n (W 12) = n := by rw [hn, ml_n (by omega)]
  have hop := ml_opn hv hcu5
  refine mw_ofG (P := pX3_isSettled) (by decide) (ws_As hb) oX3_isSettled (Nat.le_of_ble_eq_true rfl) ?_
  intro pg e0 sg mg below meth cd X hs
  refine mw_pre (I' := ws_I Γ b W sd) (fun H1 h1 => by rw [h1]; exact hH) ?_
  refine mw_steps X 1 (pc' := 1) (lv' := [(0, .ref b)]) (st' := [.ref b]) rfl ?_
  refine mw_get X kf_X3_47.fl kc_3 rfl (v := .ref (b + 15)) (fun H h => ⟨_, h.1, rfl⟩) ?_
  refine mw_get X kf_X3_106 kc_0 rfl (v := .int (nI cu)) (fun H h => ⟨_, h.2.2.2.2.2.2.2.2.1, congrArg (fun z => some (Value.int z)) hcu⟩) ?_
  refine mw_steps X 3 (pc' := 10) (lv' := [(1, .int (nI cu)), (0, .ref b)]) (st' := [.ref b, .int (nI cu)]) rfl ?_
  refine mw_get X kf_X3_51.fl kc_3 rfl (v := .ref (b + 20)) (fun H h => ⟨_, h.1, rfl⟩) ?_
  refine mw_get X kf_X3_106 kc_0 rfl (v := .int (W (3))) (fun H h => ⟨_, h.2.2.2.2.2.2.2.2.2.2.2.1, congrArg (fun z => some (Value.int z)) rfl⟩) ?_
  refine mw_icmp_ne X 87 rfl rfl (fun c16 => ?_) (fun c16 => ?_)
  · refine mw_steps X 1 (pc' := 88) (lv' := [(1, .int (nI cu)), (0, .ref b)]) (st' := [.int (nI 0)]) rfl ?_
    exact mw_zret X rfl (by decide) rfl (fun H h => ⟨by rw [show mo_settled W = false from (ml_set_f hcu hcu5 (by first | exact Or.inl c16 | exact Or.inr (Or.inl (of_decide_eq_false (mo_b_z c24))) | exact Or.inr (Or.inr (Or.inl (by have := mo_b_z c32; rw [hop] at this; exact Int32.not_le.mp (of_decide_eq_false this)))) | exact Or.inr (Or.inr (Or.inr (Or.inl (by rw [hr]; exact c42)))) | exact Or.inr (Or.inr (Or.inr (Or.inr (Or.inl (by rw [hn]; exact c52))))) | exact Or.inr (Or.inr (Or.inr (Or.inr (Or.inr (Or.inl (mo_b_z c66)))))) | exact Or.inr (Or.inr (Or.inr (Or.inr (Or.inr (Or.inr (mo_b_z c80))))))))]; rfl, h⟩)
  · refine mw_steps X 2 (pc' := 21) (lv' := [(1, .int (nI cu)), (0, .ref b)]) (st' := [.int (nI cu), .ref b]) rfl ?_
    refine mw_cV1r X kd_X3_isProved kv_X3_isProved kl_X3_109 (ci := 3) rfl rfl (Nat.le_of_ble_eq_true rfl) ⟨Nat.le_of_ble_eq_true rfl, Nat.le_of_ble_eq_true rfl⟩ ⟨Nat.le_of_ble_eq_true rfl, Nat.le_of_ble_eq_true rfl⟩ (fun _ h => h) (fun H h => ⟨⟨_, h.1⟩, zw_isProved hb h hcu5⟩) ?_
    refine mw_if_eq X 87 rfl rfl (fun c24 => ?_) (fun c24 => ?_)
    · refine mw_steps X 1 (pc' := 88) (lv' := [(1, .int (nI cu)), (0, .ref b)]) (st' := [.int (nI 0)]) rfl ?_
      exact mw_zret X rfl (by decide) rfl (fun H h => ⟨by rw [show mo_settled W = false from (ml_set_f hcu hcu5 (by first | exact Or.inl c16 | exact Or.inr (Or.inl (of_decide_eq_false (mo_b_z c24))) | exact Or.inr (Or.inr (Or.inl (by have := mo_b_z c32; rw [hop] at this; exact Int32.not_le.mp (of_decide_eq_false this)))) | exact Or.inr (Or.inr (Or.inr (Or.inl (by rw [hr]; exact c42)))) | exact Or.inr (Or.inr (Or.inr (Or.inr (Or.inl (by rw [hn]; exact c52))))) | exact Or.inr (Or.inr (Or.inr (Or.inr (Or.inr (Or.inl (mo_b_z c66)))))) | exact Or.inr (Or.inr (Or.inr (Or.inr (Or.inr (Or.inr (mo_b_z c80))))))))]; rfl, h⟩)
    · refine mw_steps X 2 (pc' := 29) (lv' := [(1, .int (nI cu)), (0, .ref b)]) (st' := [.int (nI cu), .ref b]) rfl ?_
      refine mw_cV1r X kd_X3_isOpen kv_X3_isOpen kl_X3_113 (ci := 3) rfl rfl (Nat.le_of_ble_eq_true rfl) ⟨Nat.le_of_ble_eq_true rfl, Nat.le_of_ble_eq_true rfl⟩ ⟨Nat.le_of_ble_eq_true rfl, Nat.le_of_ble_eq_true rfl⟩ (fun _ h => h) (fun H h => ⟨⟨_, h.1⟩, zw_isOpen hb h hcu5⟩) ?_
      refine mw_if_eq X 87 rfl rfl (fun c32 => ?_) (fun c32 => ?_)
      · refine mw_steps X 1 (pc' := 88) (lv' := [(1, .int (nI cu)), (0, .ref b)]) (st' := [.int (nI 0)]) rfl ?_
        exact mw_zret X rfl (by decide) rfl (fun H h => ⟨by rw [show mo_settled W = false from (ml_set_f hcu hcu5 (by first | exact Or.inl c16 | exact Or.inr (Or.inl (of_decide_eq_false (mo_b_z c24))) | exact Or.inr (Or.inr (Or.inl (by have := mo_b_z c32; rw [hop] at this; exact Int32.not_le.mp (of_decide_eq_false this)))) | exact Or.inr (Or.inr (Or.inr (Or.inl (by rw [hr]; exact c42)))) | exact Or.inr (Or.inr (Or.inr (Or.inr (Or.inl (by rw [hn]; exact c52))))) | exact Or.inr (Or.inr (Or.inr (Or.inr (Or.inr (Or.inl (mo_b_z c66)))))) | exact Or.inr (Or.inr (Or.inr (Or.inr (Or.inr (Or.inr (mo_b_z c80))))))))]; rfl, h⟩)
      · refine mw_steps X 1 (pc' := 36) (lv' := [(1, .int (nI cu)), (0, .ref b)]) (st' := [.ref b]) rfl ?_
        refine mw_get X kf_X3_14.fl kc_3 rfl (v := .ref (b + 1)) (fun H h => ⟨_, h.1, rfl⟩) ?_
        refine mw_cV0r X kd_X2_size kv_X2_size kl_X3_102 (ci := 2) rfl rfl (Nat.le_of_ble_eq_true rfl) ⟨Nat.le_of_ble_eq_true rfl, Nat.le_of_ble_eq_true rfl⟩ ⟨Nat.le_of_ble_eq_true rfl, Nat.le_of_ble_eq_true rfl⟩ (ws_sub 1 (by omega)) (fun H h => ⟨h.o_road, y1_size hb h⟩) ?_
        refine mw_top (y := nI r) (congrArg nI hrn) ?_
        refine mw_if_ne X 87 rfl rfl (fun c42 => ?_) (fun c42 => ?_)
        · refine mw_steps X 1 (pc' := 88) (lv' := [(1, .int (nI cu)), (0, .ref b)]) (st' := [.int (nI 0)]) rfl ?_
          exact mw_zret X rfl (by decide) rfl (fun H h => ⟨by rw [show mo_settled W = false from (ml_set_f hcu hcu5 (by first | exact Or.inl c16 | exact Or.inr (Or.inl (of_decide_eq_false (mo_b_z c24))) | exact Or.inr (Or.inr (Or.inl (by have := mo_b_z c32; rw [hop] at this; exact Int32.not_le.mp (of_decide_eq_false this)))) | exact Or.inr (Or.inr (Or.inr (Or.inl (by rw [hr]; exact c42)))) | exact Or.inr (Or.inr (Or.inr (Or.inr (Or.inl (by rw [hn]; exact c52))))) | exact Or.inr (Or.inr (Or.inr (Or.inr (Or.inr (Or.inl (mo_b_z c66)))))) | exact Or.inr (Or.inr (Or.inr (Or.inr (Or.inr (Or.inr (mo_b_z c80))))))))]; rfl, h⟩)
        · refine mw_steps X 1 (pc' := 46) (lv' := [(1, .int (nI cu)), (0, .ref b)]) (st' := [.ref b]) rfl ?_
          refine mw_get X kf_X3_20.fl kc_3 rfl (v := .ref (b + 3)) (fun H h => ⟨_, h.1, rfl⟩) ?_
          refine mw_cV0r X kd_X2_size kv_X2_size kl_X3_102 (ci := 2) rfl rfl (Nat.le_of_ble_eq_true rfl) ⟨Nat.le_of_ble_eq_true rfl, Nat.le_of_ble_eq_true rfl⟩ ⟨Nat.le_of_ble_eq_true rfl, Nat.le_of_ble_eq_true rfl⟩ (ws_sub 3 (by omega)) (fun H h => ⟨h.o_waiting, y2_size hb h⟩) ?_
          refine mw_top (y := nI n) (congrArg nI hnn) ?_
          refine mw_if_ne X 87 rfl rfl (fun c52 => ?_) (fun c52 => ?_)
          · refine mw_steps X 1 (pc' := 88) (lv' := [(1, .int (nI cu)), (0, .ref b)]) (st' := [.int (nI 0)]) rfl ?_
            exact mw_zret X rfl (by decide) rfl (fun H h => ⟨by rw [show mo_settled W = false from (ml_set_f hcu hcu5 (by first | exact Or.inl c16 | exact Or.inr (Or.inl (of_decide_eq_false (mo_b_z c24))) | exact Or.inr (Or.inr (Or.inl (by have := mo_b_z c32; rw [hop] at this; exact Int32.not_le.mp (of_decide_eq_false this)))) | exact Or.inr (Or.inr (Or.inr (Or.inl (by rw [hr]; exact c42)))) | exact Or.inr (Or.inr (Or.inr (Or.inr (Or.inl (by rw [hn]; exact c52))))) | exact Or.inr (Or.inr (Or.inr (Or.inr (Or.inr (Or.inl (mo_b_z c66)))))) | exact Or.inr (Or.inr (Or.inr (Or.inr (Or.inr (Or.inr (mo_b_z c80))))))))]; rfl, h⟩)
          · refine mw_steps X 1 (pc' := 56) (lv' := [(1, .int (nI cu)), (0, .ref b)]) (st' := [.ref b]) rfl ?_
            refine mw_get X kf_X3_47.fl kc_3 rfl (v := .ref (b + 15)) (fun H h => ⟨_, h.1, rfl⟩) ?_
            refine mw_steps X 1 (pc' := 60) (lv' := [(1, .int (nI cu)), (0, .ref b)]) (st' := [.ref b, .ref (b + 15)]) rfl ?_
            refine mw_get X kf_X3_51.fl kc_3 rfl (v := .ref (b + 20)) (fun H h => ⟨_, h.1, rfl⟩) ?_
            refine mw_cV1r X kd_X0_hasAllOf kv_X0_hasAllOf kl_X3_116 (ci := 0) rfl rfl (Nat.le_of_ble_eq_true rfl) ⟨Nat.le_of_ble_eq_true rfl, Nat.le_of_ble_eq_true rfl⟩ ⟨Nat.le_of_ble_eq_true rfl, Nat.le_of_ble_eq_true rfl⟩ (fun _ h => h) (fun H h => ⟨h.o_guest, ze_hasAll0 hb h hv⟩) ?_
            refine mw_if_eq X 87 rfl rfl (fun c66 => ?_) (fun c66 => ?_)
            · refine mw_steps X 1 (pc' := 88) (lv' := [(1, .int (nI cu)), (0, .ref b)]) (st' := [.int (nI 0)]) rfl ?_
              exact mw_zret X rfl (by decide) rfl (fun H h => ⟨by rw [show mo_settled W = false from (ml_set_f hcu hcu5 (by first | exact Or.inl c16 | exact Or.inr (Or.inl (of_decide_eq_false (mo_b_z c24))) | exact Or.inr (Or.inr (Or.inl (by have := mo_b_z c32; rw [hop] at this; exact Int32.not_le.mp (of_decide_eq_false this)))) | exact Or.inr (Or.inr (Or.inr (Or.inl (by rw [hr]; exact c42)))) | exact Or.inr (Or.inr (Or.inr (Or.inr (Or.inl (by rw [hn]; exact c52))))) | exact Or.inr (Or.inr (Or.inr (Or.inr (Or.inr (Or.inl (mo_b_z c66)))))) | exact Or.inr (Or.inr (Or.inr (Or.inr (Or.inr (Or.inr (mo_b_z c80))))))))]; rfl, h⟩)
            · refine mw_steps X 1 (pc' := 70) (lv' := [(1, .int (nI cu)), (0, .ref b)]) (st' := [.ref b]) rfl ?_
              refine mw_get X kf_X3_51.fl kc_3 rfl (v := .ref (b + 20)) (fun H h => ⟨_, h.1, rfl⟩) ?_
              refine mw_steps X 1 (pc' := 74) (lv' := [(1, .int (nI cu)), (0, .ref b)]) (st' := [.ref b, .ref (b + 20)]) rfl ?_
              refine mw_get X kf_X3_47.fl kc_3 rfl (v := .ref (b + 15)) (fun H h => ⟨_, h.1, rfl⟩) ?_
              refine mw_cV1r X kd_X0_hasAllOf kv_X0_hasAllOf kl_X3_116 (ci := 0) rfl rfl (Nat.le_of_ble_eq_true rfl) ⟨Nat.le_of_ble_eq_true rfl, Nat.le_of_ble_eq_true rfl⟩ ⟨Nat.le_of_ble_eq_true rfl, Nat.le_of_ble_eq_true rfl⟩ (fun _ h => h) (fun H h => ⟨h.o_house, ze_hasAll1 hb h hv⟩) ?_
              refine mw_if_eq X 87 rfl rfl (fun c80 => ?_) (fun c80 => ?_)
              · refine mw_steps X 1 (pc' := 88) (lv' := [(1, .int (nI cu)), (0, .ref b)]) (st' := [.int (nI 0)]) rfl ?_
                exact mw_zret X rfl (by decide) rfl (fun H h => ⟨by rw [show mo_settled W = false from (ml_set_f hcu hcu5 (by first | exact Or.inl c16 | exact Or.inr (Or.inl (of_decide_eq_false (mo_b_z c24))) | exact Or.inr (Or.inr (Or.inl (by have := mo_b_z c32; rw [hop] at this; exact Int32.not_le.mp (of_decide_eq_false this)))) | exact Or.inr (Or.inr (Or.inr (Or.inl (by rw [hr]; exact c42)))) | exact Or.inr (Or.inr (Or.inr (Or.inr (Or.inl (by rw [hn]; exact c52))))) | exact Or.inr (Or.inr (Or.inr (Or.inr (Or.inr (Or.inl (mo_b_z c66)))))) | exact Or.inr (Or.inr (Or.inr (Or.inr (Or.inr (Or.inr (mo_b_z c80))))))))]; rfl, h⟩)
              · refine mw_steps X 2 (pc' := 88) (lv' := [(1, .int (nI cu)), (0, .ref b)]) (st' := [.int (nI 1)]) rfl ?_
                exact mw_zret X rfl (by decide) rfl (fun H h => ⟨by rw [show mo_settled W = true from (ml_set_t hcu hcu5 c16 (of_decide_eq_true (mo_b_nz c24)) (by have := mo_b_nz c32; rw [hop] at this; exact Int32.not_lt.mpr (of_decide_eq_true this)) (by rw [hr]; exact c42) (by rw [hn]; exact c52) (mo_b_nz c66) (mo_b_nz c80))]; rfl, h⟩)
set_option maxHeartbeats 4000000 in
set_option maxRecDepth 20000 in
theorem zw_fol0 {l : Launch} {Γ : mw_C} {b : Nat} (hb : Γ.2.2.2 ≤ b) {W : Nat → Int32} {sd : Int32} {H : Heap} {p y c : Nat} (hH : ws_I Γ b W sd H) (hv : iv c W) (hp : p < 5) : mw_Cr l Γ mX3_houseFollows 3 0 0 (ws_A b) [.ref b, .int (nI p), .int (nI y), .int (nI 0)] H (some (.int (mo_b (mo_folB W p 0 y)))) (ws_I Γ b (mo_folS W p 0 y) sd) := by
  obtain ⟨cu, hcu5, hcu⟩ := ml_c3 hv
  refine mw_ofG (P := pX3_houseFollows) (by decide) (ws_As hb) oX3_houseFollows (Nat.le_of_ble_eq_true rfl) ?_
  intro pg e0 sg mg below meth cd X hs
  refine mw_pre (I' := ws_I Γ b W sd) (fun H1 h1 => by rw [h1]; exact hH) ?_
  refine mw_steps X 2 (pc' := 2) (lv' := [(0, .ref b), (1, .int (nI p)), (2, .int (nI y)), (3, .int (nI 0))]) (st' := [.int (nI 1), .int (nI 0)]) rfl ?_
  refine mw_icmp_eq X 15 rfl rfl (fun c2 => absurd c2 (by decide)) (fun c2 => ?_)
  refine mw_steps X 2 (pc' := 7) (lv' := [(0, .ref b), (1, .int (nI p)), (2, .int (nI y)), (3, .int (nI 0))]) (st' := [.int (nI 2), .int (nI 0)]) rfl ?_
  refine mw_icmp_eq X 15 rfl rfl (fun c7 => absurd c7 (by decide)) (fun c7 => ?_)
  refine mw_steps X 2 (pc' := 12) (lv' := [(0, .ref b), (1, .int (nI p)), (2, .int (nI y)), (3, .int (nI 0))]) (st' := [.int (nI 3), .int (nI 0)]) rfl ?_
  refine mw_icmp_ne X 19 rfl rfl (fun c12 => ?_) (fun c12 => absurd c12 (by decide))
  refine mw_steps X 3 (pc' := 24) (lv' := [(4, .int (nI 0)), (0, .ref b), (1, .int (nI p)), (2, .int (nI y)), (3, .int (nI 0))]) (st' := [.int (nI 0)]) rfl ?_
  refine mw_if_ne X 35 rfl rfl (fun c24 => absurd (by decide) c24) (fun c24 => ?_)
  refine mw_steps X 2 (pc' := 29) (lv' := [(4, .int (nI 0)), (0, .ref b), (1, .int (nI p)), (2, .int (nI y)), (3, .int (nI 0))]) (st' := [.ref b, .int (nI y)]) rfl ?_
  refine mw_get X kf_X3_62.fl kc_3 rfl (v := .int (W (6))) (fun H h => ⟨_, h.1, rfl⟩) ?_
  refine mw_icmp_gt X 37 rfl rfl (fun c32 => ?_) (fun c32 => ?_)
  · refine mw_steps X 2 (pc' := 39) (lv' := [(4, .int (nI 0)), (0, .ref b), (1, .int (nI p)), (2, .int (nI y)), (3, .int (nI 0))]) (st' := [.int (nI y), .ref b]) rfl ?_
    refine mw_put X kf_X3_62.fl kc_3 ⟨_, _, _, .int, rfl, rfl, by decide, rfl, rfl⟩ rfl (I1 := ws_I Γ b (upd W (6) (nI y)) sd) (fun H h => ⟨ws_Ab, _, h.1, Nat.le_of_ble_eq_true rfl, fun H1 o c => h.s6 o c⟩) ?_
    refine mw_steps X 2 (pc' := 44) (lv' := [(4, .int (nI 0)), (0, .ref b), (1, .int (nI p)), (2, .int (nI y)), (3, .int (nI 0))]) (st' := [.ref b, .int (nI p)]) rfl ?_
    refine mw_get X kf_X3_51.fl kc_3 rfl (v := .ref (b + 20)) (fun H h => ⟨_, h.1, rfl⟩) ?_
    refine mw_get X kf_X3_106 kc_0 rfl (v := .int (nI cu)) (fun H h => ⟨_, h.2.2.2.2.2.2.2.2.2.2.2.1, congrArg (fun z => some (Value.int z)) (by simp (disch := omega) only [pk_un]; exact hcu)⟩) ?_
    refine mw_icmp_ne X 55 rfl rfl (fun c50 => ?_) (fun c50 => ?_)
    · refine mw_steps X 2 (pc' := 57) (lv' := [(4, .int (nI 0)), (0, .ref b), (1, .int (nI p)), (2, .int (nI y)), (3, .int (nI 0))]) (st' := [.ref b, .ref b]) rfl ?_
      refine mw_get X kf_X3_51.fl kc_3 rfl (v := .ref (b + 20)) (fun H h => ⟨_, h.1, rfl⟩) ?_
      refine mw_get X kf_X3_106 kc_0 rfl (v := .int (nI cu)) (fun H h => ⟨_, h.2.2.2.2.2.2.2.2.2.2.2.1, congrArg (fun z => some (Value.int z)) (by simp (disch := omega) only [pk_un]; exact hcu)⟩) ?_
      refine mw_cV1r X kd_X3_isProved kv_X3_isProved kl_X3_109 (ci := 3) rfl rfl (Nat.le_of_ble_eq_true rfl) ⟨Nat.le_of_ble_eq_true rfl, Nat.le_of_ble_eq_true rfl⟩ ⟨Nat.le_of_ble_eq_true rfl, Nat.le_of_ble_eq_true rfl⟩ (fun _ h => h) (fun H h => ⟨⟨_, h.1⟩, zw_isProved hb h hcu5⟩) ?_
      refine mw_top (y := mo_b (decide (W (32 + cu) = nI 1))) (congrArg (fun z => mo_b (decide (z = nI 1))) (by simp (disch := omega) only [pk_un])) ?_
      refine mw_if_eq X 83 rfl rfl (fun c66 => ?_) (fun c66 => ?_)
      · refine mw_steps X 1 (pc' := 84) (lv' := [(4, .int (nI 0)), (0, .ref b), (1, .int (nI p)), (2, .int (nI y)), (3, .int (nI 0))]) (st' := [.ref b]) rfl ?_
        refine mw_get X kf_X3_51.fl kc_3 rfl (v := .ref (b + 20)) (fun H h => ⟨_, h.1, rfl⟩) ?_
        refine mw_steps X 1 (pc' := 88) (lv' := [(4, .int (nI 0)), (0, .ref b), (1, .int (nI p)), (2, .int (nI y)), (3, .int (nI 0))]) (st' := [.int (nI p), .ref (b + 20)]) rfl ?_
        refine mw_put X kf_X3_106 kc_0 ⟨_, _, _, .int, rfl, rfl, by decide, rfl, rfl⟩ rfl (I1 := ws_I Γ b (upd (upd W (6) (nI y)) (3) (nI p)) sd) (fun H h => ⟨ws_A0 (by omega), _, h.2.2.2.2.2.2.2.2.2.2.2.1, Nat.le_of_ble_eq_true rfl, fun H1 o c => h.s3 o c⟩) ?_
        refine mw_steps X 1 (pc' := 92) (lv' := [(4, .int (nI 0)), (0, .ref b), (1, .int (nI p)), (2, .int (nI y)), (3, .int (nI 0))]) (st' := [.int (nI 1)]) rfl ?_
        have hq : mo_folS W p 0 y = upd (upd W (6) (nI y)) (3) (nI p) ∧ mo_folB W p 0 y = true := ml_folS_z (by omega) c32 hcu hcu5 c50 (of_decide_eq_false (mo_b_z c66))
        exact mw_zret X rfl (by decide) rfl (fun H h => ⟨by rw [hq.2]; rfl, by rw [hq.1]; exact h⟩)
      · refine mw_steps X 1 (pc' := 70) (lv' := [(4, .int (nI 0)), (0, .ref b), (1, .int (nI p)), (2, .int (nI y)), (3, .int (nI 0))]) (st' := [.ref b]) rfl ?_
        refine mw_get X kf_X3_51.fl kc_3 rfl (v := .ref (b + 20)) (fun H h => ⟨_, h.1, rfl⟩) ?_
        refine mw_steps X 1 (pc' := 74) (lv' := [(4, .int (nI 0)), (0, .ref b), (1, .int (nI p)), (2, .int (nI y)), (3, .int (nI 0))]) (st' := [.ref b, .ref (b + 20)]) rfl ?_
        refine mw_get X kf_X3_51.fl kc_3 rfl (v := .ref (b + 20)) (fun H h => ⟨_, h.1, rfl⟩) ?_
        refine mw_get X kf_X3_106 kc_0 rfl (v := .int (nI cu)) (fun H h => ⟨_, h.2.2.2.2.2.2.2.2.2.2.2.1, congrArg (fun z => some (Value.int z)) (by simp (disch := omega) only [pk_un]; exact hcu)⟩) ?_
        refine mw_put X kf_X3_192 kc_0 ⟨_, _, _, .int, rfl, rfl, by decide, rfl, rfl⟩ rfl (I1 := ws_I Γ b (upd (upd W (6) (nI y)) (5) (nI cu)) sd) (fun H h => ⟨ws_A0 (by omega), _, h.2.2.2.2.2.2.2.2.2.2.2.1, Nat.le_of_ble_eq_true rfl, fun H1 o c => h.s5 o c⟩) ?_
        refine mw_steps X 1 (pc' := 84) (lv' := [(4, .int (nI 0)), (0, .ref b), (1, .int (nI p)), (2, .int (nI y)), (3, .int (nI 0))]) (st' := [.ref b]) rfl ?_
        refine mw_get X kf_X3_51.fl kc_3 rfl (v := .ref (b + 20)) (fun H h => ⟨_, h.1, rfl⟩) ?_
        refine mw_steps X 1 (pc' := 88) (lv' := [(4, .int (nI 0)), (0, .ref b), (1, .int (nI p)), (2, .int (nI y)), (3, .int (nI 0))]) (st' := [.int (nI p), .ref (b + 20)]) rfl ?_
        refine mw_put X kf_X3_106 kc_0 ⟨_, _, _, .int, rfl, rfl, by decide, rfl, rfl⟩ rfl (I1 := ws_I Γ b (upd (upd (upd W (6) (nI y)) (5) (nI cu)) (3) (nI p)) sd) (fun H h => ⟨ws_A0 (by omega), _, h.2.2.2.2.2.2.2.2.2.2.2.1, Nat.le_of_ble_eq_true rfl, fun H1 o c => h.s3 o c⟩) ?_
        refine mw_steps X 1 (pc' := 92) (lv' := [(4, .int (nI 0)), (0, .ref b), (1, .int (nI p)), (2, .int (nI y)), (3, .int (nI 0))]) (st' := [.int (nI 1)]) rfl ?_
        have hq : mo_folS W p 0 y = upd (upd (upd W (6) (nI y)) (5) (nI cu)) (3) (nI p) ∧ mo_folB W p 0 y = true := ml_folS_y (by omega) c32 hcu hcu5 c50 (of_decide_eq_true (mo_b_nz c66))
        exact mw_zret X rfl (by decide) rfl (fun H h => ⟨by rw [hq.2]; rfl, by rw [hq.1]; exact h⟩)
    · refine mw_steps X 1 (pc' := 54) (lv' := [(4, .int (nI 0)), (0, .ref b), (1, .int (nI p)), (2, .int (nI y)), (3, .int (nI 0))]) (st' := [.int (nI 0)]) rfl ?_
      have hq : mo_folS W p 0 y = upd W (6) (nI y) ∧ mo_folB W p 0 y = false := ml_folS_s (by omega) c32 (by rw [hcu]; exact c50.symm)
      exact mw_zret X rfl (by decide) rfl (fun H h => ⟨by rw [hq.2]; rfl, by rw [hq.1]; exact h⟩)
  · refine mw_steps X 1 (pc' := 36) (lv' := [(4, .int (nI 0)), (0, .ref b), (1, .int (nI p)), (2, .int (nI y)), (3, .int (nI 0))]) (st' := [.int (nI 0)]) rfl ?_
    have hq : mo_folS W p 0 y = W ∧ mo_folB W p 0 y = false := ml_folS_n (fun q => c32 q.2)
    exact mw_zret X rfl (by decide) rfl (fun H h => ⟨by rw [hq.2]; rfl, by rw [hq.1]; exact h⟩)
set_option maxHeartbeats 4000000 in
set_option maxRecDepth 20000 in
theorem zw_fol1 {l : Launch} {Γ : mw_C} {b : Nat} (hb : Γ.2.2.2 ≤ b) {W : Nat → Int32} {sd : Int32} {H : Heap} {p y c : Nat} (hH : ws_I Γ b W sd H) (hv : iv c W) (hp : p < 5) : mw_Cr l Γ mX3_houseFollows 3 0 0 (ws_A b) [.ref b, .int (nI p), .int (nI y), .int (nI 1)] H (some (.int (mo_b (mo_folB W p 1 y)))) (ws_I Γ b (mo_folS W p 1 y) sd) := by
  obtain ⟨cu, hcu5, hcu⟩ := ml_c3 hv
  refine mw_ofG (P := pX3_houseFollows) (by decide) (ws_As hb) oX3_houseFollows (Nat.le_of_ble_eq_true rfl) ?_
  intro pg e0 sg mg below meth cd X hs
  refine mw_pre (I' := ws_I Γ b W sd) (fun H1 h1 => by rw [h1]; exact hH) ?_
  refine mw_steps X 2 (pc' := 2) (lv' := [(0, .ref b), (1, .int (nI p)), (2, .int (nI y)), (3, .int (nI 1))]) (st' := [.int (nI 1), .int (nI 1)]) rfl ?_
  refine mw_icmp_eq X 15 rfl rfl (fun c2 => ?_) (fun c2 => absurd (by decide) c2)
  refine mw_steps X 4 (pc' := 24) (lv' := [(4, .int (nI 1)), (0, .ref b), (1, .int (nI p)), (2, .int (nI y)), (3, .int (nI 1))]) (st' := [.int (nI 1)]) rfl ?_
  refine mw_if_ne X 35 rfl rfl (fun c24 => ?_) (fun c24 => absurd c24 (by decide))
  refine mw_steps X 1 (pc' := 36) (lv' := [(4, .int (nI 1)), (0, .ref b), (1, .int (nI p)), (2, .int (nI y)), (3, .int (nI 1))]) (st' := [.int (nI 0)]) rfl ?_
  have hq : mo_folS W p 1 y = W ∧ mo_folB W p 1 y = false := ml_folS_n (by omega)
  exact mw_zret X rfl (by decide) rfl (fun H h => ⟨by rw [hq.2]; rfl, by rw [hq.1]; exact h⟩)
set_option maxHeartbeats 4000000 in
set_option maxRecDepth 20000 in
theorem zw_fol2 {l : Launch} {Γ : mw_C} {b : Nat} (hb : Γ.2.2.2 ≤ b) {W : Nat → Int32} {sd : Int32} {H : Heap} {p y c : Nat} (hH : ws_I Γ b W sd H) (hv : iv c W) (hp : p < 5) : mw_Cr l Γ mX3_houseFollows 3 0 0 (ws_A b) [.ref b, .int (nI p), .int (nI y), .int (nI 2)] H (some (.int (mo_b (mo_folB W p 2 y)))) (ws_I Γ b (mo_folS W p 2 y) sd) := by
  obtain ⟨cu, hcu5, hcu⟩ := ml_c3 hv
  refine mw_ofG (P := pX3_houseFollows) (by decide) (ws_As hb) oX3_houseFollows (Nat.le_of_ble_eq_true rfl) ?_
  intro pg e0 sg mg below meth cd X hs
  refine mw_pre (I' := ws_I Γ b W sd) (fun H1 h1 => by rw [h1]; exact hH) ?_
  refine mw_steps X 2 (pc' := 2) (lv' := [(0, .ref b), (1, .int (nI p)), (2, .int (nI y)), (3, .int (nI 2))]) (st' := [.int (nI 1), .int (nI 2)]) rfl ?_
  refine mw_icmp_eq X 15 rfl rfl (fun c2 => absurd c2 (by decide)) (fun c2 => ?_)
  refine mw_steps X 2 (pc' := 7) (lv' := [(0, .ref b), (1, .int (nI p)), (2, .int (nI y)), (3, .int (nI 2))]) (st' := [.int (nI 2), .int (nI 2)]) rfl ?_
  refine mw_icmp_eq X 15 rfl rfl (fun c7 => ?_) (fun c7 => absurd (by decide) c7)
  refine mw_steps X 4 (pc' := 24) (lv' := [(4, .int (nI 1)), (0, .ref b), (1, .int (nI p)), (2, .int (nI y)), (3, .int (nI 2))]) (st' := [.int (nI 1)]) rfl ?_
  refine mw_if_ne X 35 rfl rfl (fun c24 => ?_) (fun c24 => absurd c24 (by decide))
  refine mw_steps X 1 (pc' := 36) (lv' := [(4, .int (nI 1)), (0, .ref b), (1, .int (nI p)), (2, .int (nI y)), (3, .int (nI 2))]) (st' := [.int (nI 0)]) rfl ?_
  have hq : mo_folS W p 2 y = W ∧ mo_folB W p 2 y = false := ml_folS_n (by omega)
  exact mw_zret X rfl (by decide) rfl (fun H h => ⟨by rw [hq.2]; rfl, by rw [hq.1]; exact h⟩)
set_option maxHeartbeats 4000000 in
set_option maxRecDepth 20000 in
theorem zw_fol3 {l : Launch} {Γ : mw_C} {b : Nat} (hb : Γ.2.2.2 ≤ b) {W : Nat → Int32} {sd : Int32} {H : Heap} {p y c : Nat} (hH : ws_I Γ b W sd H) (hv : iv c W) (hp : p < 5) : mw_Cr l Γ mX3_houseFollows 3 0 0 (ws_A b) [.ref b, .int (nI p), .int (nI y), .int (nI 3)] H (some (.int (mo_b (mo_folB W p 3 y)))) (ws_I Γ b (mo_folS W p 3 y) sd) := by
  obtain ⟨cu, hcu5, hcu⟩ := ml_c3 hv
  refine mw_ofG (P := pX3_houseFollows) (by decide) (ws_As hb) oX3_houseFollows (Nat.le_of_ble_eq_true rfl) ?_
  intro pg e0 sg mg below meth cd X hs
  refine mw_pre (I' := ws_I Γ b W sd) (fun H1 h1 => by rw [h1]; exact hH) ?_
  refine mw_steps X 2 (pc' := 2) (lv' := [(0, .ref b), (1, .int (nI p)), (2, .int (nI y)), (3, .int (nI 3))]) (st' := [.int (nI 1), .int (nI 3)]) rfl ?_
  refine mw_icmp_eq X 15 rfl rfl (fun c2 => absurd c2 (by decide)) (fun c2 => ?_)
  refine mw_steps X 2 (pc' := 7) (lv' := [(0, .ref b), (1, .int (nI p)), (2, .int (nI y)), (3, .int (nI 3))]) (st' := [.int (nI 2), .int (nI 3)]) rfl ?_
  refine mw_icmp_eq X 15 rfl rfl (fun c7 => absurd c7 (by decide)) (fun c7 => ?_)
  refine mw_steps X 2 (pc' := 12) (lv' := [(0, .ref b), (1, .int (nI p)), (2, .int (nI y)), (3, .int (nI 3))]) (st' := [.int (nI 3), .int (nI 3)]) rfl ?_
  refine mw_icmp_ne X 19 rfl rfl (fun c12 => absurd (by decide) c12) (fun c12 => ?_)
  refine mw_steps X 4 (pc' := 24) (lv' := [(4, .int (nI 1)), (0, .ref b), (1, .int (nI p)), (2, .int (nI y)), (3, .int (nI 3))]) (st' := [.int (nI 1)]) rfl ?_
  refine mw_if_ne X 35 rfl rfl (fun c24 => ?_) (fun c24 => absurd c24 (by decide))
  refine mw_steps X 1 (pc' := 36) (lv' := [(4, .int (nI 1)), (0, .ref b), (1, .int (nI p)), (2, .int (nI y)), (3, .int (nI 3))]) (st' := [.int (nI 0)]) rfl ?_
  have hq : mo_folS W p 3 y = W ∧ mo_folB W p 3 y = false := ml_folS_n (by omega)
  exact mw_zret X rfl (by decide) rfl (fun H h => ⟨by rw [hq.2]; rfl, by rw [hq.1]; exact h⟩)
set_option maxHeartbeats 4000000 in
set_option maxRecDepth 20000 in
theorem zw_fol4 {l : Launch} {Γ : mw_C} {b : Nat} (hb : Γ.2.2.2 ≤ b) {W : Nat → Int32} {sd : Int32} {H : Heap} {p y c : Nat} (hH : ws_I Γ b W sd H) (hv : iv c W) (hp : p < 5) : mw_Cr l Γ mX3_houseFollows 3 0 0 (ws_A b) [.ref b, .int (nI p), .int (nI y), .int (nI 4)] H (some (.int (mo_b (mo_folB W p 4 y)))) (ws_I Γ b (mo_folS W p 4 y) sd) := by
  obtain ⟨cu, hcu5, hcu⟩ := ml_c3 hv
  refine mw_ofG (P := pX3_houseFollows) (by decide) (ws_As hb) oX3_houseFollows (Nat.le_of_ble_eq_true rfl) ?_
  intro pg e0 sg mg below meth cd X hs
  refine mw_pre (I' := ws_I Γ b W sd) (fun H1 h1 => by rw [h1]; exact hH) ?_
  refine mw_steps X 2 (pc' := 2) (lv' := [(0, .ref b), (1, .int (nI p)), (2, .int (nI y)), (3, .int (nI 4))]) (st' := [.int (nI 1), .int (nI 4)]) rfl ?_
  refine mw_icmp_eq X 15 rfl rfl (fun c2 => absurd c2 (by decide)) (fun c2 => ?_)
  refine mw_steps X 2 (pc' := 7) (lv' := [(0, .ref b), (1, .int (nI p)), (2, .int (nI y)), (3, .int (nI 4))]) (st' := [.int (nI 2), .int (nI 4)]) rfl ?_
  refine mw_icmp_eq X 15 rfl rfl (fun c7 => absurd c7 (by decide)) (fun c7 => ?_)
  refine mw_steps X 2 (pc' := 12) (lv' := [(0, .ref b), (1, .int (nI p)), (2, .int (nI y)), (3, .int (nI 4))]) (st' := [.int (nI 3), .int (nI 4)]) rfl ?_
  refine mw_icmp_ne X 19 rfl rfl (fun c12 => ?_) (fun c12 => absurd c12 (by decide))
  refine mw_steps X 3 (pc' := 24) (lv' := [(4, .int (nI 0)), (0, .ref b), (1, .int (nI p)), (2, .int (nI y)), (3, .int (nI 4))]) (st' := [.int (nI 0)]) rfl ?_
  refine mw_if_ne X 35 rfl rfl (fun c24 => absurd (by decide) c24) (fun c24 => ?_)
  refine mw_steps X 2 (pc' := 29) (lv' := [(4, .int (nI 0)), (0, .ref b), (1, .int (nI p)), (2, .int (nI y)), (3, .int (nI 4))]) (st' := [.ref b, .int (nI y)]) rfl ?_
  refine mw_get X kf_X3_62.fl kc_3 rfl (v := .int (W (6))) (fun H h => ⟨_, h.1, rfl⟩) ?_
  refine mw_icmp_gt X 37 rfl rfl (fun c32 => ?_) (fun c32 => ?_)
  · refine mw_steps X 2 (pc' := 39) (lv' := [(4, .int (nI 0)), (0, .ref b), (1, .int (nI p)), (2, .int (nI y)), (3, .int (nI 4))]) (st' := [.int (nI y), .ref b]) rfl ?_
    refine mw_put X kf_X3_62.fl kc_3 ⟨_, _, _, .int, rfl, rfl, by decide, rfl, rfl⟩ rfl (I1 := ws_I Γ b (upd W (6) (nI y)) sd) (fun H h => ⟨ws_Ab, _, h.1, Nat.le_of_ble_eq_true rfl, fun H1 o c => h.s6 o c⟩) ?_
    refine mw_steps X 2 (pc' := 44) (lv' := [(4, .int (nI 0)), (0, .ref b), (1, .int (nI p)), (2, .int (nI y)), (3, .int (nI 4))]) (st' := [.ref b, .int (nI p)]) rfl ?_
    refine mw_get X kf_X3_51.fl kc_3 rfl (v := .ref (b + 20)) (fun H h => ⟨_, h.1, rfl⟩) ?_
    refine mw_get X kf_X3_106 kc_0 rfl (v := .int (nI cu)) (fun H h => ⟨_, h.2.2.2.2.2.2.2.2.2.2.2.1, congrArg (fun z => some (Value.int z)) (by simp (disch := omega) only [pk_un]; exact hcu)⟩) ?_
    refine mw_icmp_ne X 55 rfl rfl (fun c50 => ?_) (fun c50 => ?_)
    · refine mw_steps X 2 (pc' := 57) (lv' := [(4, .int (nI 0)), (0, .ref b), (1, .int (nI p)), (2, .int (nI y)), (3, .int (nI 4))]) (st' := [.ref b, .ref b]) rfl ?_
      refine mw_get X kf_X3_51.fl kc_3 rfl (v := .ref (b + 20)) (fun H h => ⟨_, h.1, rfl⟩) ?_
      refine mw_get X kf_X3_106 kc_0 rfl (v := .int (nI cu)) (fun H h => ⟨_, h.2.2.2.2.2.2.2.2.2.2.2.1, congrArg (fun z => some (Value.int z)) (by simp (disch := omega) only [pk_un]; exact hcu)⟩) ?_
      refine mw_cV1r X kd_X3_isProved kv_X3_isProved kl_X3_109 (ci := 3) rfl rfl (Nat.le_of_ble_eq_true rfl) ⟨Nat.le_of_ble_eq_true rfl, Nat.le_of_ble_eq_true rfl⟩ ⟨Nat.le_of_ble_eq_true rfl, Nat.le_of_ble_eq_true rfl⟩ (fun _ h => h) (fun H h => ⟨⟨_, h.1⟩, zw_isProved hb h hcu5⟩) ?_
      refine mw_top (y := mo_b (decide (W (32 + cu) = nI 1))) (congrArg (fun z => mo_b (decide (z = nI 1))) (by simp (disch := omega) only [pk_un])) ?_
      refine mw_if_eq X 83 rfl rfl (fun c66 => ?_) (fun c66 => ?_)
      · refine mw_steps X 1 (pc' := 84) (lv' := [(4, .int (nI 0)), (0, .ref b), (1, .int (nI p)), (2, .int (nI y)), (3, .int (nI 4))]) (st' := [.ref b]) rfl ?_
        refine mw_get X kf_X3_51.fl kc_3 rfl (v := .ref (b + 20)) (fun H h => ⟨_, h.1, rfl⟩) ?_
        refine mw_steps X 1 (pc' := 88) (lv' := [(4, .int (nI 0)), (0, .ref b), (1, .int (nI p)), (2, .int (nI y)), (3, .int (nI 4))]) (st' := [.int (nI p), .ref (b + 20)]) rfl ?_
        refine mw_put X kf_X3_106 kc_0 ⟨_, _, _, .int, rfl, rfl, by decide, rfl, rfl⟩ rfl (I1 := ws_I Γ b (upd (upd W (6) (nI y)) (3) (nI p)) sd) (fun H h => ⟨ws_A0 (by omega), _, h.2.2.2.2.2.2.2.2.2.2.2.1, Nat.le_of_ble_eq_true rfl, fun H1 o c => h.s3 o c⟩) ?_
        refine mw_steps X 1 (pc' := 92) (lv' := [(4, .int (nI 0)), (0, .ref b), (1, .int (nI p)), (2, .int (nI y)), (3, .int (nI 4))]) (st' := [.int (nI 1)]) rfl ?_
        have hq : mo_folS W p 4 y = upd (upd W (6) (nI y)) (3) (nI p) ∧ mo_folB W p 4 y = true := ml_folS_z (by omega) c32 hcu hcu5 c50 (of_decide_eq_false (mo_b_z c66))
        exact mw_zret X rfl (by decide) rfl (fun H h => ⟨by rw [hq.2]; rfl, by rw [hq.1]; exact h⟩)
      · refine mw_steps X 1 (pc' := 70) (lv' := [(4, .int (nI 0)), (0, .ref b), (1, .int (nI p)), (2, .int (nI y)), (3, .int (nI 4))]) (st' := [.ref b]) rfl ?_
        refine mw_get X kf_X3_51.fl kc_3 rfl (v := .ref (b + 20)) (fun H h => ⟨_, h.1, rfl⟩) ?_
        refine mw_steps X 1 (pc' := 74) (lv' := [(4, .int (nI 0)), (0, .ref b), (1, .int (nI p)), (2, .int (nI y)), (3, .int (nI 4))]) (st' := [.ref b, .ref (b + 20)]) rfl ?_
        refine mw_get X kf_X3_51.fl kc_3 rfl (v := .ref (b + 20)) (fun H h => ⟨_, h.1, rfl⟩) ?_
        refine mw_get X kf_X3_106 kc_0 rfl (v := .int (nI cu)) (fun H h => ⟨_, h.2.2.2.2.2.2.2.2.2.2.2.1, congrArg (fun z => some (Value.int z)) (by simp (disch := omega) only [pk_un]; exact hcu)⟩) ?_
        refine mw_put X kf_X3_192 kc_0 ⟨_, _, _, .int, rfl, rfl, by decide, rfl, rfl⟩ rfl (I1 := ws_I Γ b (upd (upd W (6) (nI y)) (5) (nI cu)) sd) (fun H h => ⟨ws_A0 (by omega), _, h.2.2.2.2.2.2.2.2.2.2.2.1, Nat.le_of_ble_eq_true rfl, fun H1 o c => h.s5 o c⟩) ?_
        refine mw_steps X 1 (pc' := 84) (lv' := [(4, .int (nI 0)), (0, .ref b), (1, .int (nI p)), (2, .int (nI y)), (3, .int (nI 4))]) (st' := [.ref b]) rfl ?_
        refine mw_get X kf_X3_51.fl kc_3 rfl (v := .ref (b + 20)) (fun H h => ⟨_, h.1, rfl⟩) ?_
        refine mw_steps X 1 (pc' := 88) (lv' := [(4, .int (nI 0)), (0, .ref b), (1, .int (nI p)), (2, .int (nI y)), (3, .int (nI 4))]) (st' := [.int (nI p), .ref (b + 20)]) rfl ?_
        refine mw_put X kf_X3_106 kc_0 ⟨_, _, _, .int, rfl, rfl, by decide, rfl, rfl⟩ rfl (I1 := ws_I Γ b (upd (upd (upd W (6) (nI y)) (5) (nI cu)) (3) (nI p)) sd) (fun H h => ⟨ws_A0 (by omega), _, h.2.2.2.2.2.2.2.2.2.2.2.1, Nat.le_of_ble_eq_true rfl, fun H1 o c => h.s3 o c⟩) ?_
        refine mw_steps X 1 (pc' := 92) (lv' := [(4, .int (nI 0)), (0, .ref b), (1, .int (nI p)), (2, .int (nI y)), (3, .int (nI 4))]) (st' := [.int (nI 1)]) rfl ?_
        have hq : mo_folS W p 4 y = upd (upd (upd W (6) (nI y)) (5) (nI cu)) (3) (nI p) ∧ mo_folB W p 4 y = true := ml_folS_y (by omega) c32 hcu hcu5 c50 (of_decide_eq_true (mo_b_nz c66))
        exact mw_zret X rfl (by decide) rfl (fun H h => ⟨by rw [hq.2]; rfl, by rw [hq.1]; exact h⟩)
    · refine mw_steps X 1 (pc' := 54) (lv' := [(4, .int (nI 0)), (0, .ref b), (1, .int (nI p)), (2, .int (nI y)), (3, .int (nI 4))]) (st' := [.int (nI 0)]) rfl ?_
      have hq : mo_folS W p 4 y = upd W (6) (nI y) ∧ mo_folB W p 4 y = false := ml_folS_s (by omega) c32 (by rw [hcu]; exact c50.symm)
      exact mw_zret X rfl (by decide) rfl (fun H h => ⟨by rw [hq.2]; rfl, by rw [hq.1]; exact h⟩)
  · refine mw_steps X 1 (pc' := 36) (lv' := [(4, .int (nI 0)), (0, .ref b), (1, .int (nI p)), (2, .int (nI y)), (3, .int (nI 4))]) (st' := [.int (nI 0)]) rfl ?_
    have hq : mo_folS W p 4 y = W ∧ mo_folB W p 4 y = false := ml_folS_n (fun q => c32 q.2)
    exact mw_zret X rfl (by decide) rfl (fun H h => ⟨by rw [hq.2]; rfl, by rw [hq.1]; exact h⟩)
set_option maxHeartbeats 4000000 in
set_option maxRecDepth 20000 in
theorem zw_fol5 {l : Launch} {Γ : mw_C} {b : Nat} (hb : Γ.2.2.2 ≤ b) {W : Nat → Int32} {sd : Int32} {H : Heap} {p y c : Nat} (hH : ws_I Γ b W sd H) (hv : iv c W) (hp : p < 5) : mw_Cr l Γ mX3_houseFollows 3 0 0 (ws_A b) [.ref b, .int (nI p), .int (nI y), .int (nI 5)] H (some (.int (mo_b (mo_folB W p 5 y)))) (ws_I Γ b (mo_folS W p 5 y) sd) := by
  obtain ⟨cu, hcu5, hcu⟩ := ml_c3 hv
  refine mw_ofG (P := pX3_houseFollows) (by decide) (ws_As hb) oX3_houseFollows (Nat.le_of_ble_eq_true rfl) ?_
  intro pg e0 sg mg below meth cd X hs
  refine mw_pre (I' := ws_I Γ b W sd) (fun H1 h1 => by rw [h1]; exact hH) ?_
  refine mw_steps X 2 (pc' := 2) (lv' := [(0, .ref b), (1, .int (nI p)), (2, .int (nI y)), (3, .int (nI 5))]) (st' := [.int (nI 1), .int (nI 5)]) rfl ?_
  refine mw_icmp_eq X 15 rfl rfl (fun c2 => absurd c2 (by decide)) (fun c2 => ?_)
  refine mw_steps X 2 (pc' := 7) (lv' := [(0, .ref b), (1, .int (nI p)), (2, .int (nI y)), (3, .int (nI 5))]) (st' := [.int (nI 2), .int (nI 5)]) rfl ?_
  refine mw_icmp_eq X 15 rfl rfl (fun c7 => absurd c7 (by decide)) (fun c7 => ?_)
  refine mw_steps X 2 (pc' := 12) (lv' := [(0, .ref b), (1, .int (nI p)), (2, .int (nI y)), (3, .int (nI 5))]) (st' := [.int (nI 3), .int (nI 5)]) rfl ?_
  refine mw_icmp_ne X 19 rfl rfl (fun c12 => ?_) (fun c12 => absurd c12 (by decide))
  refine mw_steps X 3 (pc' := 24) (lv' := [(4, .int (nI 0)), (0, .ref b), (1, .int (nI p)), (2, .int (nI y)), (3, .int (nI 5))]) (st' := [.int (nI 0)]) rfl ?_
  refine mw_if_ne X 35 rfl rfl (fun c24 => absurd (by decide) c24) (fun c24 => ?_)
  refine mw_steps X 2 (pc' := 29) (lv' := [(4, .int (nI 0)), (0, .ref b), (1, .int (nI p)), (2, .int (nI y)), (3, .int (nI 5))]) (st' := [.ref b, .int (nI y)]) rfl ?_
  refine mw_get X kf_X3_62.fl kc_3 rfl (v := .int (W (6))) (fun H h => ⟨_, h.1, rfl⟩) ?_
  refine mw_icmp_gt X 37 rfl rfl (fun c32 => ?_) (fun c32 => ?_)
  · refine mw_steps X 2 (pc' := 39) (lv' := [(4, .int (nI 0)), (0, .ref b), (1, .int (nI p)), (2, .int (nI y)), (3, .int (nI 5))]) (st' := [.int (nI y), .ref b]) rfl ?_
    refine mw_put X kf_X3_62.fl kc_3 ⟨_, _, _, .int, rfl, rfl, by decide, rfl, rfl⟩ rfl (I1 := ws_I Γ b (upd W (6) (nI y)) sd) (fun H h => ⟨ws_Ab, _, h.1, Nat.le_of_ble_eq_true rfl, fun H1 o c => h.s6 o c⟩) ?_
    refine mw_steps X 2 (pc' := 44) (lv' := [(4, .int (nI 0)), (0, .ref b), (1, .int (nI p)), (2, .int (nI y)), (3, .int (nI 5))]) (st' := [.ref b, .int (nI p)]) rfl ?_
    refine mw_get X kf_X3_51.fl kc_3 rfl (v := .ref (b + 20)) (fun H h => ⟨_, h.1, rfl⟩) ?_
    refine mw_get X kf_X3_106 kc_0 rfl (v := .int (nI cu)) (fun H h => ⟨_, h.2.2.2.2.2.2.2.2.2.2.2.1, congrArg (fun z => some (Value.int z)) (by simp (disch := omega) only [pk_un]; exact hcu)⟩) ?_
    refine mw_icmp_ne X 55 rfl rfl (fun c50 => ?_) (fun c50 => ?_)
    · refine mw_steps X 2 (pc' := 57) (lv' := [(4, .int (nI 0)), (0, .ref b), (1, .int (nI p)), (2, .int (nI y)), (3, .int (nI 5))]) (st' := [.ref b, .ref b]) rfl ?_
      refine mw_get X kf_X3_51.fl kc_3 rfl (v := .ref (b + 20)) (fun H h => ⟨_, h.1, rfl⟩) ?_
      refine mw_get X kf_X3_106 kc_0 rfl (v := .int (nI cu)) (fun H h => ⟨_, h.2.2.2.2.2.2.2.2.2.2.2.1, congrArg (fun z => some (Value.int z)) (by simp (disch := omega) only [pk_un]; exact hcu)⟩) ?_
      refine mw_cV1r X kd_X3_isProved kv_X3_isProved kl_X3_109 (ci := 3) rfl rfl (Nat.le_of_ble_eq_true rfl) ⟨Nat.le_of_ble_eq_true rfl, Nat.le_of_ble_eq_true rfl⟩ ⟨Nat.le_of_ble_eq_true rfl, Nat.le_of_ble_eq_true rfl⟩ (fun _ h => h) (fun H h => ⟨⟨_, h.1⟩, zw_isProved hb h hcu5⟩) ?_
      refine mw_top (y := mo_b (decide (W (32 + cu) = nI 1))) (congrArg (fun z => mo_b (decide (z = nI 1))) (by simp (disch := omega) only [pk_un])) ?_
      refine mw_if_eq X 83 rfl rfl (fun c66 => ?_) (fun c66 => ?_)
      · refine mw_steps X 1 (pc' := 84) (lv' := [(4, .int (nI 0)), (0, .ref b), (1, .int (nI p)), (2, .int (nI y)), (3, .int (nI 5))]) (st' := [.ref b]) rfl ?_
        refine mw_get X kf_X3_51.fl kc_3 rfl (v := .ref (b + 20)) (fun H h => ⟨_, h.1, rfl⟩) ?_
        refine mw_steps X 1 (pc' := 88) (lv' := [(4, .int (nI 0)), (0, .ref b), (1, .int (nI p)), (2, .int (nI y)), (3, .int (nI 5))]) (st' := [.int (nI p), .ref (b + 20)]) rfl ?_
        refine mw_put X kf_X3_106 kc_0 ⟨_, _, _, .int, rfl, rfl, by decide, rfl, rfl⟩ rfl (I1 := ws_I Γ b (upd (upd W (6) (nI y)) (3) (nI p)) sd) (fun H h => ⟨ws_A0 (by omega), _, h.2.2.2.2.2.2.2.2.2.2.2.1, Nat.le_of_ble_eq_true rfl, fun H1 o c => h.s3 o c⟩) ?_
        refine mw_steps X 1 (pc' := 92) (lv' := [(4, .int (nI 0)), (0, .ref b), (1, .int (nI p)), (2, .int (nI y)), (3, .int (nI 5))]) (st' := [.int (nI 1)]) rfl ?_
        have hq : mo_folS W p 5 y = upd (upd W (6) (nI y)) (3) (nI p) ∧ mo_folB W p 5 y = true := ml_folS_z (by omega) c32 hcu hcu5 c50 (of_decide_eq_false (mo_b_z c66))
        exact mw_zret X rfl (by decide) rfl (fun H h => ⟨by rw [hq.2]; rfl, by rw [hq.1]; exact h⟩)
      · refine mw_steps X 1 (pc' := 70) (lv' := [(4, .int (nI 0)), (0, .ref b), (1, .int (nI p)), (2, .int (nI y)), (3, .int (nI 5))]) (st' := [.ref b]) rfl ?_
        refine mw_get X kf_X3_51.fl kc_3 rfl (v := .ref (b + 20)) (fun H h => ⟨_, h.1, rfl⟩) ?_
        refine mw_steps X 1 (pc' := 74) (lv' := [(4, .int (nI 0)), (0, .ref b), (1, .int (nI p)), (2, .int (nI y)), (3, .int (nI 5))]) (st' := [.ref b, .ref (b + 20)]) rfl ?_
        refine mw_get X kf_X3_51.fl kc_3 rfl (v := .ref (b + 20)) (fun H h => ⟨_, h.1, rfl⟩) ?_
        refine mw_get X kf_X3_106 kc_0 rfl (v := .int (nI cu)) (fun H h => ⟨_, h.2.2.2.2.2.2.2.2.2.2.2.1, congrArg (fun z => some (Value.int z)) (by simp (disch := omega) only [pk_un]; exact hcu)⟩) ?_
        refine mw_put X kf_X3_192 kc_0 ⟨_, _, _, .int, rfl, rfl, by decide, rfl, rfl⟩ rfl (I1 := ws_I Γ b (upd (upd W (6) (nI y)) (5) (nI cu)) sd) (fun H h => ⟨ws_A0 (by omega), _, h.2.2.2.2.2.2.2.2.2.2.2.1, Nat.le_of_ble_eq_true rfl, fun H1 o c => h.s5 o c⟩) ?_
        refine mw_steps X 1 (pc' := 84) (lv' := [(4, .int (nI 0)), (0, .ref b), (1, .int (nI p)), (2, .int (nI y)), (3, .int (nI 5))]) (st' := [.ref b]) rfl ?_
        refine mw_get X kf_X3_51.fl kc_3 rfl (v := .ref (b + 20)) (fun H h => ⟨_, h.1, rfl⟩) ?_
        refine mw_steps X 1 (pc' := 88) (lv' := [(4, .int (nI 0)), (0, .ref b), (1, .int (nI p)), (2, .int (nI y)), (3, .int (nI 5))]) (st' := [.int (nI p), .ref (b + 20)]) rfl ?_
        refine mw_put X kf_X3_106 kc_0 ⟨_, _, _, .int, rfl, rfl, by decide, rfl, rfl⟩ rfl (I1 := ws_I Γ b (upd (upd (upd W (6) (nI y)) (5) (nI cu)) (3) (nI p)) sd) (fun H h => ⟨ws_A0 (by omega), _, h.2.2.2.2.2.2.2.2.2.2.2.1, Nat.le_of_ble_eq_true rfl, fun H1 o c => h.s3 o c⟩) ?_
        refine mw_steps X 1 (pc' := 92) (lv' := [(4, .int (nI 0)), (0, .ref b), (1, .int (nI p)), (2, .int (nI y)), (3, .int (nI 5))]) (st' := [.int (nI 1)]) rfl ?_
        have hq : mo_folS W p 5 y = upd (upd (upd W (6) (nI y)) (5) (nI cu)) (3) (nI p) ∧ mo_folB W p 5 y = true := ml_folS_y (by omega) c32 hcu hcu5 c50 (of_decide_eq_true (mo_b_nz c66))
        exact mw_zret X rfl (by decide) rfl (fun H h => ⟨by rw [hq.2]; rfl, by rw [hq.1]; exact h⟩)
    · refine mw_steps X 1 (pc' := 54) (lv' := [(4, .int (nI 0)), (0, .ref b), (1, .int (nI p)), (2, .int (nI y)), (3, .int (nI 5))]) (st' := [.int (nI 0)]) rfl ?_
      have hq : mo_folS W p 5 y = upd W (6) (nI y) ∧ mo_folB W p 5 y = false := ml_folS_s (by omega) c32 (by rw [hcu]; exact c50.symm)
      exact mw_zret X rfl (by decide) rfl (fun H h => ⟨by rw [hq.2]; rfl, by rw [hq.1]; exact h⟩)
  · refine mw_steps X 1 (pc' := 36) (lv' := [(4, .int (nI 0)), (0, .ref b), (1, .int (nI p)), (2, .int (nI y)), (3, .int (nI 5))]) (st' := [.int (nI 0)]) rfl ?_
    have hq : mo_folS W p 5 y = W ∧ mo_folB W p 5 y = false := ml_folS_n (fun q => c32 q.2)
    exact mw_zret X rfl (by decide) rfl (fun H h => ⟨by rw [hq.2]; rfl, by rw [hq.1]; exact h⟩)
set_option maxHeartbeats 4000000 in
set_option maxRecDepth 20000 in
theorem zw_once {l : Launch} {Γ : mw_C} {b : Nat} (hb : Γ.2.2.2 ≤ b) {W : Nat → Int32} {sd : Int32} {H : Heap} {p c : Nat} (hH : ws_I Γ b W sd H) (hv : iv c W) (hp : p < 5) : mw_Cr l Γ mX3_houseDoubts 4 0 0 (ws_A b) [.ref b, .int (nI p)] H none (ws_I Γ b (mo_once W p) sd) := by
  have hn6 := ml_n6 hv.1
  have h01 := (hv.2.2.2.2.2.1 p hp).2.2
  refine mw_ofG (P := pX3_houseDoubts) (by decide) (ws_As hb) oX3_houseDoubts (Nat.le_of_ble_eq_true rfl) ?_
  intro pg e0 sg mg below meth cd X hs
  refine mw_pre (I' := ws_I Γ b W sd) (fun H1 h1 => by rw [h1]; exact hH) ?_
  refine mw_steps X 2 (pc' := 2) (lv' := [(0, .ref b), (1, .int (nI p))]) (st' := [.int (nI p), .ref b]) rfl ?_
  refine mw_cV1r X kd_X3_isProved kv_X3_isProved kl_X3_109 (ci := 3) rfl rfl (Nat.le_of_ble_eq_true rfl) ⟨Nat.le_of_ble_eq_true rfl, Nat.le_of_ble_eq_true rfl⟩ ⟨Nat.le_of_ble_eq_true rfl, Nat.le_of_ble_eq_true rfl⟩ (fun _ h => h) (fun H h => ⟨⟨_, h.1⟩, zw_isProved hb h hp⟩) ?_
  refine mw_if_ne X 32 rfl rfl (fun c5 => ?_) (fun c5 => ?_)
  · exact mw_vret X rfl rfl (fun H h => ⟨rfl, by rw [show mo_once W p = W from by first | exact ml_once_p (of_decide_eq_true (mo_b_nz c5)) | exact ml_once_a (Decidable.byContradiction (fun q => c16 ((ml_ixN (by omega)).mpr q)))]; exact h⟩)
  · refine mw_steps X 4 (pc' := 12) (lv' := [(0, .ref b), (1, .int (nI p))]) (st' := [.int (nI p), .int (nI 2), .int (nI 1), .ref b]) rfl ?_
    refine mw_cV3r X kd_X3_askedWith kv_X3_askedWith kl_X3_169 (ci := 3) rfl rfl (Nat.le_of_ble_eq_true rfl) ⟨Nat.le_of_ble_eq_true rfl, Nat.le_of_ble_eq_true rfl⟩ ⟨Nat.le_of_ble_eq_true rfl, Nat.le_of_ble_eq_true rfl⟩ (fun _ h => h) (fun H h => ⟨⟨_, h.1⟩, zw_fa12 hb h hv.1⟩) ?_
    refine mw_steps X 1 (pc' := 16) (lv' := [(0, .ref b), (1, .int (nI p))]) (st' := [.int (-1), .int (mo_ix (mo_fa W 1 2 (nI p)) (mo_n (W 13)))]) rfl ?_
    refine mw_icmp_ne X 32 rfl rfl (fun c16 => ?_) (fun c16 => ?_)
    · exact mw_vret X rfl rfl (fun H h => ⟨rfl, by rw [show mo_once W p = W from by first | exact ml_once_p (of_decide_eq_true (mo_b_nz c5)) | exact ml_once_a (Decidable.byContradiction (fun q => c16 ((ml_ixN (by omega)).mpr q)))]; exact h⟩)
    · refine mw_steps X 7 (pc' := 26) (lv' := [(0, .ref b), (1, .int (nI p))]) (st' := [.int (nI p), .int (nI 1), .ref b, .int (nI 1), .int (nI p), .int (nI 1), .ref b]) rfl ?_
      refine mw_cV2r X kd_X3_challenges kv_X3_challenges kl_X3_195 (ci := 3) rfl rfl (Nat.le_of_ble_eq_true rfl) ⟨Nat.le_of_ble_eq_true rfl, Nat.le_of_ble_eq_true rfl⟩ ⟨Nat.le_of_ble_eq_true rfl, Nat.le_of_ble_eq_true rfl⟩ (fun _ h => h) (fun H h => ⟨⟨_, h.1⟩, zw_ask1 hb h hv.1 (p := p)⟩) ?_
      refine mw_cV4v X kd_X3_writes kv_X3_writes kl_X3_198 (ci := 3) rfl rfl (Nat.le_of_ble_eq_true rfl) ⟨Nat.le_of_ble_eq_true rfl, Nat.le_of_ble_eq_true rfl⟩ ⟨Nat.le_of_ble_eq_true rfl, Nat.le_of_ble_eq_true rfl⟩ (fun _ h => h) (fun H h => ⟨⟨_, h.1⟩, zw_goes1 hb h (iv_ask hv (by omega) hp).1 hp (by omega)⟩) ?_
      exact mw_vret X rfl rfl (fun H h => ⟨rfl, by rw [show mo_once W p = mo_goes (mo_ask W 1 p) 1 p 1 (W 17) from by exact ml_once_y (of_decide_eq_false (mo_b_z c5)) h01 ((ml_ixN (by omega)).mp c16)]; exact h⟩)
set_option maxHeartbeats 4000000 in
set_option maxRecDepth 20000 in
theorem zw_repN {l : Launch} {Γ : mw_C} {b : Nat} (hb : Γ.2.2.2 ≤ b) {W : Nat → Int32} {sd : Int32} {H : Heap} {c : Nat} {x : Int32} (hH : ws_I Γ b W sd H) (hv : iv c W) (hl : mo_live W x = false) : mw_Cr l Γ mX3_replaces 2 0 0 (ws_A b) [.ref b, .int x] H (some (.int (-1))) (ws_I Γ b W sd) := by
  refine mw_ofG (P := pX3_replaces) (by decide) (ws_As hb) oX3_replaces (Nat.le_of_ble_eq_true rfl) ?_
  intro pg e0 sg mg below meth cd X hs
  refine mw_pre (I' := ws_I Γ b W sd) (fun H1 h1 => by rw [h1]; exact hH) ?_
  refine mw_steps X 1 (pc' := 1) (lv' := [(0, .ref b), (1, .int x)]) (st' := [.ref b]) rfl ?_
  refine mw_get X kf_X3_34.fl kc_3 rfl (v := .ref (b + 9)) (fun H h => ⟨_, h.1, rfl⟩) ?_
  refine mw_steps X 1 (pc' := 5) (lv' := [(0, .ref b), (1, .int x)]) (st' := [.int x, .ref (b + 9)]) rfl ?_
  refine mw_cV1r X kd_X1_has kv_X1_has kl_X3_173 (ci := 1) rfl rfl (Nat.le_of_ble_eq_true rfl) ⟨Nat.le_of_ble_eq_true rfl, Nat.le_of_ble_eq_true rfl⟩ ⟨Nat.le_of_ble_eq_true rfl, Nat.le_of_ble_eq_true rfl⟩ (ws_sub 9 (by omega)) (fun H h => ⟨h.o_live, y5_has hb h⟩) ?_
  refine mw_if_ne X 13 rfl rfl (fun c8 => absurd (by rw [ml_liveC hv, hl]; decide) c8) (fun c8 => ?_)
  refine mw_steps X 1 (pc' := 12) (lv' := [(0, .ref b), (1, .int x)]) (st' := [.int (-1)]) rfl ?_
  exact mw_iret X rfl rfl (fun H h => ⟨rfl, h⟩)
set_option maxHeartbeats 4000000 in
set_option maxRecDepth 20000 in
theorem zw_repF {l : Launch} {Γ : mw_C} {b : Nat} (hb : Γ.2.2.2 ≤ b) {W : Nat → Int32} {sd : Int32} {H : Heap} {c j g : Nat} (hH : ws_I Γ b W sd H) (hv : iv c W) (hl : mo_live W (nI j) = true) (hj : j < 40) (hg : W 1 = nI g) (hg4 : g ≤ 40) (hgf : ¬ g < 40) : mw_Cr l Γ mX3_replaces 2 0 0 (ws_A b) [.ref b, .int (nI j)] H (some (.int (-1))) (ws_I Γ b (upd W (47 + j) (nI 0)) sd) := by
  refine mw_ofG (P := pX3_replaces) (by decide) (ws_As hb) oX3_replaces (Nat.le_of_ble_eq_true rfl) ?_
  intro pg e0 sg mg below meth cd X hs
  refine mw_pre (I' := ws_I Γ b W sd) (fun H1 h1 => by rw [h1]; exact hH) ?_
  refine mw_steps X 1 (pc' := 1) (lv' := [(0, .ref b), (1, .int (nI j))]) (st' := [.ref b]) rfl ?_
  refine mw_get X kf_X3_34.fl kc_3 rfl (v := .ref (b + 9)) (fun H h => ⟨_, h.1, rfl⟩) ?_
  refine mw_steps X 1 (pc' := 5) (lv' := [(0, .ref b), (1, .int (nI j))]) (st' := [.int (nI j), .ref (b + 9)]) rfl ?_
  refine mw_cV1r X kd_X1_has kv_X1_has kl_X3_173 (ci := 1) rfl rfl (Nat.le_of_ble_eq_true rfl) ⟨Nat.le_of_ble_eq_true rfl, Nat.le_of_ble_eq_true rfl⟩ ⟨Nat.le_of_ble_eq_true rfl, Nat.le_of_ble_eq_true rfl⟩ (ws_sub 9 (by omega)) (fun H h => ⟨h.o_live, y5_has hb h⟩) ?_
  refine mw_if_ne X 13 rfl rfl (fun c8 => ?_) (fun c8 => absurd c8 (by rw [ml_liveC hv, hl]; decide))
  refine mw_steps X 1 (pc' := 14) (lv' := [(0, .ref b), (1, .int (nI j))]) (st' := [.ref b]) rfl ?_
  refine mw_get X kf_X3_34.fl kc_3 rfl (v := .ref (b + 9)) (fun H h => ⟨_, h.1, rfl⟩) ?_
  refine mw_steps X 1 (pc' := 18) (lv' := [(0, .ref b), (1, .int (nI j))]) (st' := [.int (nI j), .ref (b + 9)]) rfl ?_
  refine mw_cV1v X kd_X1_remove kv_X1_remove kl_X3_216 (ci := 1) rfl rfl (Nat.le_of_ble_eq_true rfl) ⟨Nat.le_of_ble_eq_true rfl, Nat.le_of_ble_eq_true rfl⟩ ⟨Nat.le_of_ble_eq_true rfl, Nat.le_of_ble_eq_true rfl⟩ (ws_sub 9 (by omega)) (fun H h => ⟨h.o_live, y5_rem (k := j) hb h hj⟩) ?_
  refine mw_steps X 1 (pc' := 22) (lv' := [(0, .ref b), (1, .int (nI j))]) (st' := [.ref b]) rfl ?_
  refine mw_get X kf_X3_58.fl kc_3 rfl (v := .int (nI g)) (fun H h => ⟨_, h.1, congrArg (fun z => some (Value.int z)) (by simp (disch := omega) only [pk_un]; exact hg)⟩) ?_
  refine mw_steps X 1 (pc' := 27) (lv' := [(0, .ref b), (1, .int (nI j))]) (st' := [.int (nI 40), .int (nI g)]) rfl ?_
  refine mw_icmp_lt X 32 rfl rfl (fun c27 => absurd c27 (by rw [nI_ltI (by omega) (by omega)]; omega)) (fun c27 => ?_)
  refine mw_steps X 1 (pc' := 31) (lv' := [(0, .ref b), (1, .int (nI j))]) (st' := [.int (-1)]) rfl ?_
  exact mw_iret X rfl rfl (fun H h => ⟨rfl, h⟩)
set_option maxHeartbeats 4000000 in
set_option maxRecDepth 20000 in
theorem zw_repY {l : Launch} {Γ : mw_C} {b : Nat} (hb : Γ.2.2.2 ≤ b) {W : Nat → Int32} {sd : Int32} {H : Heap} {c j g : Nat} (hH : ws_I Γ b W sd H) (hv : iv c W) (hl : mo_live W (nI j) = true) (hj : j < 40) (hg : W 1 = nI g) (hg4 : g ≤ 40) (hgf : g < 40) : mw_Cr l Γ mX3_replaces 2 0 0 (ws_A b) [.ref b, .int (nI j)] H (some (.int (nI g))) (ws_I Γ b (upd (upd (upd W (47 + j) (nI 0)) 1 (nI g + nI 1)) (47 + g) (nI 1)) sd) := by
  refine mw_ofG (P := pX3_replaces) (by decide) (ws_As hb) oX3_replaces (Nat.le_of_ble_eq_true rfl) ?_
  intro pg e0 sg mg below meth cd X hs
  refine mw_pre (I' := ws_I Γ b W sd) (fun H1 h1 => by rw [h1]; exact hH) ?_
  refine mw_steps X 1 (pc' := 1) (lv' := [(0, .ref b), (1, .int (nI j))]) (st' := [.ref b]) rfl ?_
  refine mw_get X kf_X3_34.fl kc_3 rfl (v := .ref (b + 9)) (fun H h => ⟨_, h.1, rfl⟩) ?_
  refine mw_steps X 1 (pc' := 5) (lv' := [(0, .ref b), (1, .int (nI j))]) (st' := [.int (nI j), .ref (b + 9)]) rfl ?_
  refine mw_cV1r X kd_X1_has kv_X1_has kl_X3_173 (ci := 1) rfl rfl (Nat.le_of_ble_eq_true rfl) ⟨Nat.le_of_ble_eq_true rfl, Nat.le_of_ble_eq_true rfl⟩ ⟨Nat.le_of_ble_eq_true rfl, Nat.le_of_ble_eq_true rfl⟩ (ws_sub 9 (by omega)) (fun H h => ⟨h.o_live, y5_has hb h⟩) ?_
  refine mw_if_ne X 13 rfl rfl (fun c8 => ?_) (fun c8 => absurd c8 (by rw [ml_liveC hv, hl]; decide))
  refine mw_steps X 1 (pc' := 14) (lv' := [(0, .ref b), (1, .int (nI j))]) (st' := [.ref b]) rfl ?_
  refine mw_get X kf_X3_34.fl kc_3 rfl (v := .ref (b + 9)) (fun H h => ⟨_, h.1, rfl⟩) ?_
  refine mw_steps X 1 (pc' := 18) (lv' := [(0, .ref b), (1, .int (nI j))]) (st' := [.int (nI j), .ref (b + 9)]) rfl ?_
  refine mw_cV1v X kd_X1_remove kv_X1_remove kl_X3_216 (ci := 1) rfl rfl (Nat.le_of_ble_eq_true rfl) ⟨Nat.le_of_ble_eq_true rfl, Nat.le_of_ble_eq_true rfl⟩ ⟨Nat.le_of_ble_eq_true rfl, Nat.le_of_ble_eq_true rfl⟩ (ws_sub 9 (by omega)) (fun H h => ⟨h.o_live, y5_rem (k := j) hb h hj⟩) ?_
  refine mw_steps X 1 (pc' := 22) (lv' := [(0, .ref b), (1, .int (nI j))]) (st' := [.ref b]) rfl ?_
  refine mw_get X kf_X3_58.fl kc_3 rfl (v := .int (nI g)) (fun H h => ⟨_, h.1, congrArg (fun z => some (Value.int z)) (by simp (disch := omega) only [pk_un]; exact hg)⟩) ?_
  refine mw_steps X 1 (pc' := 27) (lv' := [(0, .ref b), (1, .int (nI j))]) (st' := [.int (nI 40), .int (nI g)]) rfl ?_
  refine mw_icmp_lt X 32 rfl rfl (fun c27 => ?_) (fun c27 => absurd (by rw [nI_ltI (by omega) (by omega)]; omega) c27)
  refine mw_steps X 1 (pc' := 33) (lv' := [(0, .ref b), (1, .int (nI j))]) (st' := [.ref b]) rfl ?_
  refine mw_get X kf_X3_58.fl kc_3 rfl (v := .int (nI g)) (fun H h => ⟨_, h.1, congrArg (fun z => some (Value.int z)) (by simp (disch := omega) only [pk_un]; exact hg)⟩) ?_
  refine mw_steps X 5 (pc' := 41) (lv' := [(2, .int (nI g)), (0, .ref b), (1, .int (nI j))]) (st' := [.int ((nI g) + (nI 1)), .ref b]) rfl ?_
  refine mw_put X kf_X3_58.fl kc_3 ⟨_, _, _, .int, rfl, rfl, by decide, rfl, rfl⟩ rfl (I1 := ws_I Γ b (upd (upd W (47 + j) (nI 0)) (1) ((nI g) + (nI 1))) sd) (fun H h => ⟨ws_Ab, _, h.1, Nat.le_of_ble_eq_true rfl, fun H1 o c => h.s1 o c⟩) ?_
  refine mw_steps X 1 (pc' := 45) (lv' := [(2, .int (nI g)), (0, .ref b), (1, .int (nI j))]) (st' := [.ref b]) rfl ?_
  refine mw_get X kf_X3_34.fl kc_3 rfl (v := .ref (b + 9)) (fun H h => ⟨_, h.1, rfl⟩) ?_
  refine mw_steps X 1 (pc' := 49) (lv' := [(2, .int (nI g)), (0, .ref b), (1, .int (nI j))]) (st' := [.int (nI g), .ref (b + 9)]) rfl ?_
  refine mw_cV1v X kd_X1_add kv_X1_add kl_X3_73 (ci := 1) rfl rfl (Nat.le_of_ble_eq_true rfl) ⟨Nat.le_of_ble_eq_true rfl, Nat.le_of_ble_eq_true rfl⟩ ⟨Nat.le_of_ble_eq_true rfl, Nat.le_of_ble_eq_true rfl⟩ (ws_sub 9 (by omega)) (fun H h => ⟨h.o_live, y5_add (k := g) hb h hgf⟩) ?_
  refine mw_steps X 1 (pc' := 53) (lv' := [(2, .int (nI g)), (0, .ref b), (1, .int (nI j))]) (st' := [.int (nI g)]) rfl ?_
  exact mw_iret X rfl rfl (fun H h => ⟨rfl, h⟩)
