set_option maxHeartbeats 4000000 in
set_option maxRecDepth 20000 in
theorem zw_forget {l : Launch} {Γ : mw_C} {b : Nat} (hb : Γ.2.2.2 ≤ b) {W : Nat → Int32} {sd : Int32} {H : Heap} {p c : Nat} (hH : ws_I Γ b W sd H) (hv : iv c W) (hp : p < 5) (hnp : ¬ W (32 + p) = nI 1) : mw_Cr l Γ mX3_forgets 3 0 0 (ws_A b) [.ref b, .int (nI p)] H none (ws_I Γ b (mo_forget W p) sd) := by
  obtain ⟨V, hV⟩ : ∃ V, V = mo_drop (upd (upd W (37 + p) (nI 0)) (42 + p) (nI 0)) p := ⟨_, rfl⟩
  have hiU : iv c (upd (upd W (37 + p) (nI 0)) (42 + p) (nI 0)) := hv.free (fun j a => by rw [pk_un (by omega), pk_un (by omega)])
  obtain ⟨hV3, hV5⟩ := ml_forgetC hv hp hnp hV
  obtain ⟨cu, hcu5, hcu⟩ := ml_c3 hv
  have hVcu : V 3 = nI cu := hV3.trans hcu
  have hmf := ml_forget_f hnp hV
  refine mw_ofG (P := pX3_forgets) (by decide) (ws_As hb) oX3_forgets (Nat.le_of_ble_eq_true rfl) ?_
  intro pg e0 sg mg below meth cd X hs
  refine mw_pre (I' := ws_I Γ b W sd) (fun H1 h1 => by rw [h1]; exact hH) ?_
  refine mw_steps X 1 (pc' := 1) (lv' := [(0, .ref b), (1, .int (nI p))]) (st' := [.ref b]) rfl ?_
  refine mw_get X kf_X3_26.fl kc_3 rfl (v := .ref (b + 7)) (fun H h => ⟨_, h.1, rfl⟩) ?_
  refine mw_steps X 3 (pc' := 7) (lv' := [(0, .ref b), (1, .int (nI p))]) (st' := [.int (nI 0), .int (nI 3), .int (nI p), .ref (b + 7)]) rfl ?_
  refine mw_cV3v X kd_X2_put kv_X2_put kl_X3_69 (ci := 2) rfl rfl (Nat.le_of_ble_eq_true rfl) ⟨Nat.le_of_ble_eq_true rfl, Nat.le_of_ble_eq_true rfl⟩ ⟨Nat.le_of_ble_eq_true rfl, Nat.le_of_ble_eq_true rfl⟩ (ws_sub 7 (by omega)) (fun H h => ⟨h.o_places, y4_put3 hb h hp⟩) ?_
  refine mw_steps X 1 (pc' := 11) (lv' := [(0, .ref b), (1, .int (nI p))]) (st' := [.ref b]) rfl ?_
  refine mw_get X kf_X3_26.fl kc_3 rfl (v := .ref (b + 7)) (fun H h => ⟨_, h.1, rfl⟩) ?_
  refine mw_steps X 3 (pc' := 17) (lv' := [(0, .ref b), (1, .int (nI p))]) (st' := [.int (nI 0), .int (nI 4), .int (nI p), .ref (b + 7)]) rfl ?_
  refine mw_cV3v X kd_X2_put kv_X2_put kl_X3_69 (ci := 2) rfl rfl (Nat.le_of_ble_eq_true rfl) ⟨Nat.le_of_ble_eq_true rfl, Nat.le_of_ble_eq_true rfl⟩ ⟨Nat.le_of_ble_eq_true rfl, Nat.le_of_ble_eq_true rfl⟩ (ws_sub 7 (by omega)) (fun H h => ⟨h.o_places, y4_put4 hb h hp⟩) ?_
  refine mw_steps X 2 (pc' := 22) (lv' := [(0, .ref b), (1, .int (nI p))]) (st' := [.int (nI p), .ref b]) rfl ?_
  refine mw_cV1v X kd_X3_dropsHeldOf kv_X3_dropsHeldOf kl_X3_240 (ci := 3) rfl rfl (Nat.le_of_ble_eq_true rfl) ⟨Nat.le_of_ble_eq_true rfl, Nat.le_of_ble_eq_true rfl⟩ ⟨Nat.le_of_ble_eq_true rfl, Nat.le_of_ble_eq_true rfl⟩ (fun _ h => h) (fun H h => ⟨⟨_, h.1⟩, zw_drop hb h hiU.1 hp⟩) ?_
  rw [← hV]
  refine mw_steps X 1 (pc' := 26) (lv' := [(0, .ref b), (1, .int (nI p))]) (st' := [.ref b]) rfl ?_
  refine mw_get X kf_X3_51.fl kc_3 rfl (v := .ref (b + 20)) (fun H h => ⟨_, h.1, rfl⟩) ?_
  refine mw_get X kf_X3_106 kc_0 rfl (v := .int (nI cu)) (fun H h => ⟨_, h.2.2.2.2.2.2.2.2.2.2.2.1, congrArg (fun z => some (Value.int z)) hVcu⟩) ?_
  refine mw_steps X 1 (pc' := 33) (lv' := [(0, .ref b), (1, .int (nI p))]) (st' := [.int (nI p), .int (nI cu)]) rfl ?_
  refine mw_icmp_ne X 61 rfl rfl (fun c33 => ?_) (fun c33 => ?_)
  · exact mw_vret X rfl rfl (fun H h => ⟨rfl, by rw [show mo_forget W p = V from by rw [hmf, if_neg (show ¬ W 3 = nI p by rw [hcu]; exact c33)]; exact ml_same hV3]; exact h⟩)
  · have hcp : cu = p := by rw [nI_eq (by omega) (by omega)] at c33; exact c33
    obtain ⟨q, hq5, hq⟩ : ∃ q, q < 5 ∧ W 5 = nI q := by
      rcases hv.2.2.2.2.2.2.2.2.2.2 with z | z
      · rw [hcu, ml_n (by omega), hcp] at z; exact absurd z hnp
      · exact z
    have hV5q : V 5 = nI q := hV5.trans hq
    refine mw_steps X 1 (pc' := 37) (lv' := [(0, .ref b), (1, .int (nI p))]) (st' := [.ref b]) rfl ?_
    refine mw_get X kf_X3_51.fl kc_3 rfl (v := .ref (b + 20)) (fun H h => ⟨_, h.1, rfl⟩) ?_
    refine mw_get X kf_X3_192 kc_0 rfl (v := .int (nI q)) (fun H h => ⟨_, h.2.2.2.2.2.2.2.2.2.2.2.1, congrArg (fun z => some (Value.int z)) hV5q⟩) ?_
    refine mw_steps X 1 (pc' := 44) (lv' := [(0, .ref b), (1, .int (nI p))]) (st' := [.int (-1), .int (nI q)]) rfl ?_
    refine mw_icmp_eq X 61 rfl rfl (fun c44 => absurd c44 (fun z => nI_pos (n := q) (by omega) (by rw [z]; decide))) (fun c44 => ?_)
    refine mw_steps X 1 (pc' := 48) (lv' := [(0, .ref b), (1, .int (nI p))]) (st' := [.ref b]) rfl ?_
    refine mw_get X kf_X3_51.fl kc_3 rfl (v := .ref (b + 20)) (fun H h => ⟨_, h.1, rfl⟩) ?_
    refine mw_steps X 1 (pc' := 52) (lv' := [(0, .ref b), (1, .int (nI p))]) (st' := [.ref b, .ref (b + 20)]) rfl ?_
    refine mw_get X kf_X3_51.fl kc_3 rfl (v := .ref (b + 20)) (fun H h => ⟨_, h.1, rfl⟩) ?_
    refine mw_get X kf_X3_192 kc_0 rfl (v := .int (nI q)) (fun H h => ⟨_, h.2.2.2.2.2.2.2.2.2.2.2.1, congrArg (fun z => some (Value.int z)) hV5q⟩) ?_
    refine mw_put X kf_X3_106 kc_0 ⟨_, _, _, .int, rfl, rfl, by decide, rfl, rfl⟩ rfl (I1 := ws_I Γ b (upd V (3) (nI q)) sd) (fun H h => ⟨ws_A0 (by omega), _, h.2.2.2.2.2.2.2.2.2.2.2.1, Nat.le_of_ble_eq_true rfl, fun H1 o c => h.s3 o c⟩) ?_
    exact mw_vret X rfl rfl (fun H h => ⟨rfl, by rw [show mo_forget W p = upd V (3) (nI q) from by rw [hmf, if_pos (show W 3 = nI p by rw [hcu]; exact c33), hq]]; exact h⟩)
set_option maxHeartbeats 4000000 in
set_option maxRecDepth 20000 in
theorem zw_leaveY {l : Launch} {Γ : mw_C} {b : Nat} (hb : Γ.2.2.2 ≤ b) {W : Nat → Int32} {sd : Int32} {H : Heap} {p c f : Nat} (hH : ws_I Γ b W sd H) (hv : iv (c + 1) W) (hp : p < 5) (hf : W 4 = nI f) (hf5 : f < 5) : mw_Cr l Γ mX3_leaves 4 0 0 (ws_A b) [.ref b, .int (nI p)] H none (ws_I Γ b (mo_leave (mo_back W p) p) sd) := by
  obtain ⟨cu, hcu5, hcu⟩ := ml_c2 hv
  have hop := ml_opn hv hf5
  have hg2 := ml_goTo_2 hv hf5
  have hiG : iv c (mo_goTo W f) := iv_goTo hv hf5
  refine mw_ofG (P := pX3_leaves) (by decide) (ws_As hb) oX3_leaves (Nat.le_of_ble_eq_true rfl) ?_
  intro pg e0 sg mg below meth cd X hs
  refine mw_pre (I' := ws_I Γ b W sd) (fun H1 h1 => by rw [h1]; exact hH) ?_
  refine mw_steps X 1 (pc' := 1) (lv' := [(0, .ref b), (1, .int (nI p))]) (st' := [.ref b]) rfl ?_
  refine mw_get X kf_X3_47.fl kc_3 rfl (v := .ref (b + 15)) (fun H h => ⟨_, h.1, rfl⟩) ?_
  refine mw_get X kf_X3_106 kc_0 rfl (v := .int (nI cu)) (fun H h => ⟨_, h.2.2.2.2.2.2.2.2.1, congrArg (fun z => some (Value.int z)) hcu⟩) ?_
  refine mw_steps X 1 (pc' := 8) (lv' := [(0, .ref b), (1, .int (nI p))]) (st' := [.int (nI p), .int (nI cu)]) rfl ?_
  refine mw_icmp_ne X 36 rfl rfl (fun c8 => ?_) (fun c8 => ?_)
  · refine mw_steps X 1 (pc' := 37) (lv' := [(0, .ref b), (1, .int (nI p))]) (st' := [.ref b]) rfl ?_
    refine mw_get X kf_X3_47.fl kc_3 rfl (v := .ref (b + 15)) (fun H h => ⟨_, h.1, rfl⟩) ?_
    refine mw_get X kf_X3_106 kc_0 rfl (v := .int (nI cu)) (fun H h => ⟨_, h.2.2.2.2.2.2.2.2.1, congrArg (fun z => some (Value.int z)) hcu⟩) ?_
    refine mw_steps X 1 (pc' := 44) (lv' := [(0, .ref b), (1, .int (nI p))]) (st' := [.int (nI p), .int (nI cu)]) rfl ?_
    refine mw_icmp_eq X 53 rfl rfl (fun c44 => ?_) (fun c44 => ?_)
    · exact mw_vret X rfl rfl (fun H h => ⟨rfl, by rw [show mo_leave (mo_back W p) p = W from by rw [ml_back_f (by rintro ⟨q1, q2, q3⟩; first | exact c8 (by rw [← hcu]; exact q1) | (rw [hf, ml_n (by omega)] at q3; have := mo_b_z c22; rw [hop] at this; exact absurd q3 (of_decide_eq_false this)))]; exact ml_leave_s hcu c44]; exact h⟩)
    · refine mw_steps X 2 (pc' := 49) (lv' := [(0, .ref b), (1, .int (nI p))]) (st' := [.int (nI p), .ref b]) rfl ?_
      refine mw_cV1r X kd_X3_closes kv_X3_closes kl_X3_246 (ci := 3) rfl rfl (Nat.le_of_ble_eq_true rfl) ⟨Nat.le_of_ble_eq_true rfl, Nat.le_of_ble_eq_true rfl⟩ ⟨Nat.le_of_ble_eq_true rfl, Nat.le_of_ble_eq_true rfl⟩ (fun _ h => h) (fun H h => ⟨⟨_, h.1⟩, zw_close hb h hv hp⟩) ?_
      refine mw_steps X 1 (pc' := 53) (lv' := [(0, .ref b), (1, .int (nI p))]) (st' := []) rfl ?_
      exact mw_vret X rfl rfl (fun H h => ⟨rfl, by rw [show mo_leave (mo_back W p) p = mo_close W p from by rw [ml_back_f (by rintro ⟨q1, q2, q3⟩; first | exact c8 (by rw [← hcu]; exact q1) | (rw [hf, ml_n (by omega)] at q3; have := mo_b_z c22; rw [hop] at this; exact absurd q3 (of_decide_eq_false this)))]; exact ml_leave_c hcu c44]; exact h⟩)
  · refine mw_steps X 2 (pc' := 13) (lv' := [(0, .ref b), (1, .int (nI p))]) (st' := [.ref b, .ref b]) rfl ?_
    refine mw_get X kf_X3_47.fl kc_3 rfl (v := .ref (b + 15)) (fun H h => ⟨_, h.1, rfl⟩) ?_
    refine mw_get X kf_X3_192 kc_0 rfl (v := .int (nI f)) (fun H h => ⟨_, h.2.2.2.2.2.2.2.2.1, congrArg (fun z => some (Value.int z)) hf⟩) ?_
    refine mw_cV1r X kd_X3_isOpen kv_X3_isOpen kl_X3_113 (ci := 3) rfl rfl (Nat.le_of_ble_eq_true rfl) ⟨Nat.le_of_ble_eq_true rfl, Nat.le_of_ble_eq_true rfl⟩ ⟨Nat.le_of_ble_eq_true rfl, Nat.le_of_ble_eq_true rfl⟩ (fun _ h => h) (fun H h => ⟨⟨_, h.1⟩, zw_isOpen hb h hf5⟩) ?_
    refine mw_if_eq X 36 rfl rfl (fun c22 => ?_) (fun c22 => ?_)
    · refine mw_steps X 1 (pc' := 37) (lv' := [(0, .ref b), (1, .int (nI p))]) (st' := [.ref b]) rfl ?_
      refine mw_get X kf_X3_47.fl kc_3 rfl (v := .ref (b + 15)) (fun H h => ⟨_, h.1, rfl⟩) ?_
      refine mw_get X kf_X3_106 kc_0 rfl (v := .int (nI cu)) (fun H h => ⟨_, h.2.2.2.2.2.2.2.2.1, congrArg (fun z => some (Value.int z)) hcu⟩) ?_
      refine mw_steps X 1 (pc' := 44) (lv' := [(0, .ref b), (1, .int (nI p))]) (st' := [.int (nI p), .int (nI cu)]) rfl ?_
      refine mw_icmp_eq X 53 rfl rfl (fun c44 => ?_) (fun c44 => ?_)
      · exact mw_vret X rfl rfl (fun H h => ⟨rfl, by rw [show mo_leave (mo_back W p) p = W from by rw [ml_back_f (by rintro ⟨q1, q2, q3⟩; first | exact c8 (by rw [← hcu]; exact q1) | (rw [hf, ml_n (by omega)] at q3; have := mo_b_z c22; rw [hop] at this; exact absurd q3 (of_decide_eq_false this)))]; exact ml_leave_s hcu c44]; exact h⟩)
      · refine mw_steps X 2 (pc' := 49) (lv' := [(0, .ref b), (1, .int (nI p))]) (st' := [.int (nI p), .ref b]) rfl ?_
        refine mw_cV1r X kd_X3_closes kv_X3_closes kl_X3_246 (ci := 3) rfl rfl (Nat.le_of_ble_eq_true rfl) ⟨Nat.le_of_ble_eq_true rfl, Nat.le_of_ble_eq_true rfl⟩ ⟨Nat.le_of_ble_eq_true rfl, Nat.le_of_ble_eq_true rfl⟩ (fun _ h => h) (fun H h => ⟨⟨_, h.1⟩, zw_close hb h hv hp⟩) ?_
        refine mw_steps X 1 (pc' := 53) (lv' := [(0, .ref b), (1, .int (nI p))]) (st' := []) rfl ?_
        exact mw_vret X rfl rfl (fun H h => ⟨rfl, by rw [show mo_leave (mo_back W p) p = mo_close W p from by rw [ml_back_f (by rintro ⟨q1, q2, q3⟩; first | exact c8 (by rw [← hcu]; exact q1) | (rw [hf, ml_n (by omega)] at q3; have := mo_b_z c22; rw [hop] at this; exact absurd q3 (of_decide_eq_false this)))]; exact ml_leave_c hcu c44]; exact h⟩)
    · refine mw_steps X 2 (pc' := 27) (lv' := [(0, .ref b), (1, .int (nI p))]) (st' := [.ref b, .ref b]) rfl ?_
      refine mw_get X kf_X3_47.fl kc_3 rfl (v := .ref (b + 15)) (fun H h => ⟨_, h.1, rfl⟩) ?_
      refine mw_get X kf_X3_192 kc_0 rfl (v := .int (nI f)) (fun H h => ⟨_, h.2.2.2.2.2.2.2.2.1, congrArg (fun z => some (Value.int z)) hf⟩) ?_
      refine mw_cV1v X kd_X3_goesTo kv_X3_goesTo kl_X3_243 (ci := 3) rfl rfl (Nat.le_of_ble_eq_true rfl) ⟨Nat.le_of_ble_eq_true rfl, Nat.le_of_ble_eq_true rfl⟩ ⟨Nat.le_of_ble_eq_true rfl, Nat.le_of_ble_eq_true rfl⟩ (fun _ h => h) (fun H h => ⟨⟨_, h.1⟩, zw_goTo hb h hv hf5⟩) ?_
      refine mw_steps X 1 (pc' := 37) (lv' := [(0, .ref b), (1, .int (nI p))]) (st' := [.ref b]) rfl ?_
      refine mw_get X kf_X3_47.fl kc_3 rfl (v := .ref (b + 15)) (fun H h => ⟨_, h.1, rfl⟩) ?_
      refine mw_get X kf_X3_106 kc_0 rfl (v := .int (nI f)) (fun H h => ⟨_, h.2.2.2.2.2.2.2.2.1, congrArg (fun z => some (Value.int z)) hg2⟩) ?_
      refine mw_steps X 1 (pc' := 44) (lv' := [(0, .ref b), (1, .int (nI p))]) (st' := [.int (nI p), .int (nI f)]) rfl ?_
      refine mw_icmp_eq X 53 rfl rfl (fun c44 => ?_) (fun c44 => ?_)
      · exact mw_vret X rfl rfl (fun H h => ⟨rfl, by rw [show mo_leave (mo_back W p) p = mo_goTo W f from by rw [ml_back_t (by rw [hcu]; exact c8) hf hf5 (by have := mo_b_nz c22; rw [hop] at this; exact Int32.not_lt.mpr (of_decide_eq_true this))]; exact ml_leave_s hg2 c44]; exact h⟩)
      · refine mw_steps X 2 (pc' := 49) (lv' := [(0, .ref b), (1, .int (nI p))]) (st' := [.int (nI p), .ref b]) rfl ?_
        refine mw_cV1r X kd_X3_closes kv_X3_closes kl_X3_246 (ci := 3) rfl rfl (Nat.le_of_ble_eq_true rfl) ⟨Nat.le_of_ble_eq_true rfl, Nat.le_of_ble_eq_true rfl⟩ ⟨Nat.le_of_ble_eq_true rfl, Nat.le_of_ble_eq_true rfl⟩ (fun _ h => h) (fun H h => ⟨⟨_, h.1⟩, zw_close hb h hiG hp⟩) ?_
        refine mw_steps X 1 (pc' := 53) (lv' := [(0, .ref b), (1, .int (nI p))]) (st' := []) rfl ?_
        exact mw_vret X rfl rfl (fun H h => ⟨rfl, by rw [show mo_leave (mo_back W p) p = mo_close (mo_goTo W f) p from by rw [ml_back_t (by rw [hcu]; exact c8) hf hf5 (by have := mo_b_nz c22; rw [hop] at this; exact Int32.not_lt.mpr (of_decide_eq_true this))]; exact ml_leave_c hg2 c44]; exact h⟩)
set_option maxHeartbeats 4000000 in
set_option maxRecDepth 20000 in
theorem zw_leaveN {l : Launch} {Γ : mw_C} {b : Nat} (hb : Γ.2.2.2 ≤ b) {W : Nat → Int32} {sd : Int32} {H : Heap} {p c : Nat} (hH : ws_I Γ b W sd H) (hv : iv (c + 1) W) (hp : p < 5) (hf : W 4 = -1) : mw_Cr l Γ mX3_leaves 4 0 0 (ws_A b) [.ref b, .int (nI p)] H none (ws_I Γ b (mo_leave (mo_back W p) p) sd) := by
  obtain ⟨cu, hcu5, hcu⟩ := ml_c2 hv
  refine mw_ofG (P := pX3_leaves) (by decide) (ws_As hb) oX3_leaves (Nat.le_of_ble_eq_true rfl) ?_
  intro pg e0 sg mg below meth cd X hs
  refine mw_pre (I' := ws_I Γ b W sd) (fun H1 h1 => by rw [h1]; exact hH) ?_
  refine mw_steps X 1 (pc' := 1) (lv' := [(0, .ref b), (1, .int (nI p))]) (st' := [.ref b]) rfl ?_
  refine mw_get X kf_X3_47.fl kc_3 rfl (v := .ref (b + 15)) (fun H h => ⟨_, h.1, rfl⟩) ?_
  refine mw_get X kf_X3_106 kc_0 rfl (v := .int (nI cu)) (fun H h => ⟨_, h.2.2.2.2.2.2.2.2.1, congrArg (fun z => some (Value.int z)) hcu⟩) ?_
  refine mw_steps X 1 (pc' := 8) (lv' := [(0, .ref b), (1, .int (nI p))]) (st' := [.int (nI p), .int (nI cu)]) rfl ?_
  refine mw_icmp_ne X 36 rfl rfl (fun c8 => ?_) (fun c8 => ?_)
  · refine mw_steps X 1 (pc' := 37) (lv' := [(0, .ref b), (1, .int (nI p))]) (st' := [.ref b]) rfl ?_
    refine mw_get X kf_X3_47.fl kc_3 rfl (v := .ref (b + 15)) (fun H h => ⟨_, h.1, rfl⟩) ?_
    refine mw_get X kf_X3_106 kc_0 rfl (v := .int (nI cu)) (fun H h => ⟨_, h.2.2.2.2.2.2.2.2.1, congrArg (fun z => some (Value.int z)) hcu⟩) ?_
    refine mw_steps X 1 (pc' := 44) (lv' := [(0, .ref b), (1, .int (nI p))]) (st' := [.int (nI p), .int (nI cu)]) rfl ?_
    refine mw_icmp_eq X 53 rfl rfl (fun c44 => ?_) (fun c44 => ?_)
    · exact mw_vret X rfl rfl (fun H h => ⟨rfl, by rw [show mo_leave (mo_back W p) p = W from by rw [ml_back_f (by rintro ⟨q1, q2, q3⟩; rw [hf] at q2; exact absurd q2 (by decide))]; exact ml_leave_s hcu c44]; exact h⟩)
    · refine mw_steps X 2 (pc' := 49) (lv' := [(0, .ref b), (1, .int (nI p))]) (st' := [.int (nI p), .ref b]) rfl ?_
      refine mw_cV1r X kd_X3_closes kv_X3_closes kl_X3_246 (ci := 3) rfl rfl (Nat.le_of_ble_eq_true rfl) ⟨Nat.le_of_ble_eq_true rfl, Nat.le_of_ble_eq_true rfl⟩ ⟨Nat.le_of_ble_eq_true rfl, Nat.le_of_ble_eq_true rfl⟩ (fun _ h => h) (fun H h => ⟨⟨_, h.1⟩, zw_close hb h hv hp⟩) ?_
      refine mw_steps X 1 (pc' := 53) (lv' := [(0, .ref b), (1, .int (nI p))]) (st' := []) rfl ?_
      exact mw_vret X rfl rfl (fun H h => ⟨rfl, by rw [show mo_leave (mo_back W p) p = mo_close W p from by rw [ml_back_f (by rintro ⟨q1, q2, q3⟩; rw [hf] at q2; exact absurd q2 (by decide))]; exact ml_leave_c hcu c44]; exact h⟩)
  · refine mw_steps X 2 (pc' := 13) (lv' := [(0, .ref b), (1, .int (nI p))]) (st' := [.ref b, .ref b]) rfl ?_
    refine mw_get X kf_X3_47.fl kc_3 rfl (v := .ref (b + 15)) (fun H h => ⟨_, h.1, rfl⟩) ?_
    refine mw_get X kf_X3_192 kc_0 rfl (v := .int (-1)) (fun H h => ⟨_, h.2.2.2.2.2.2.2.2.1, congrArg (fun z => some (Value.int z)) hf⟩) ?_
    refine mw_cV1r X kd_X3_isOpen kv_X3_isOpen kl_X3_113 (ci := 3) rfl rfl (Nat.le_of_ble_eq_true rfl) ⟨Nat.le_of_ble_eq_true rfl, Nat.le_of_ble_eq_true rfl⟩ ⟨Nat.le_of_ble_eq_true rfl, Nat.le_of_ble_eq_true rfl⟩ (fun _ h => h) (fun H h => ⟨⟨_, h.1⟩, zw_isOpenN hb h⟩) ?_
    refine mw_if_eq X 36 rfl rfl (fun c22 => ?_) (fun c22 => absurd (by decide) c22)
    refine mw_steps X 1 (pc' := 37) (lv' := [(0, .ref b), (1, .int (nI p))]) (st' := [.ref b]) rfl ?_
    refine mw_get X kf_X3_47.fl kc_3 rfl (v := .ref (b + 15)) (fun H h => ⟨_, h.1, rfl⟩) ?_
    refine mw_get X kf_X3_106 kc_0 rfl (v := .int (nI cu)) (fun H h => ⟨_, h.2.2.2.2.2.2.2.2.1, congrArg (fun z => some (Value.int z)) hcu⟩) ?_
    refine mw_steps X 1 (pc' := 44) (lv' := [(0, .ref b), (1, .int (nI p))]) (st' := [.int (nI p), .int (nI cu)]) rfl ?_
    refine mw_icmp_eq X 53 rfl rfl (fun c44 => ?_) (fun c44 => ?_)
    · exact mw_vret X rfl rfl (fun H h => ⟨rfl, by rw [show mo_leave (mo_back W p) p = W from by rw [ml_back_f (by rintro ⟨q1, q2, q3⟩; rw [hf] at q2; exact absurd q2 (by decide))]; exact ml_leave_s hcu c44]; exact h⟩)
    · refine mw_steps X 2 (pc' := 49) (lv' := [(0, .ref b), (1, .int (nI p))]) (st' := [.int (nI p), .ref b]) rfl ?_
      refine mw_cV1r X kd_X3_closes kv_X3_closes kl_X3_246 (ci := 3) rfl rfl (Nat.le_of_ble_eq_true rfl) ⟨Nat.le_of_ble_eq_true rfl, Nat.le_of_ble_eq_true rfl⟩ ⟨Nat.le_of_ble_eq_true rfl, Nat.le_of_ble_eq_true rfl⟩ (fun _ h => h) (fun H h => ⟨⟨_, h.1⟩, zw_close hb h hv hp⟩) ?_
      refine mw_steps X 1 (pc' := 53) (lv' := [(0, .ref b), (1, .int (nI p))]) (st' := []) rfl ?_
      exact mw_vret X rfl rfl (fun H h => ⟨rfl, by rw [show mo_leave (mo_back W p) p = mo_close W p from by rw [ml_back_f (by rintro ⟨q1, q2, q3⟩; rw [hf] at q2; exact absurd q2 (by decide))]; exact ml_leave_c hcu c44]; exact h⟩)
theorem zw_leave {l : Launch} {Γ : mw_C} {b : Nat} (hb : Γ.2.2.2 ≤ b) {W : Nat → Int32} {sd : Int32} {H : Heap} {p c : Nat} (hH : ws_I Γ b W sd H) (hv : iv (c + 1) W) (hp : p < 5) : mw_Cr l Γ mX3_leaves 4 0 0 (ws_A b) [.ref b, .int (nI p)] H none (ws_I Γ b (mo_leave (mo_back W p) p) sd) := by
  rcases hv.2.2.2.2.2.2.2.2.1 with q | ⟨f, hf5, q⟩
  · exact zw_leaveN hb hH hv hp q
  · exact zw_leaveY hb hH hv hp q hf5
set_option maxHeartbeats 4000000 in
set_option maxRecDepth 20000 in
theorem zw_gives0 {l : Launch} {Γ : mw_C} {b : Nat} (hb : Γ.2.2.2 ≤ b) {W : Nat → Int32} {sd : Int32} {H : Heap} {k p c : Nat} (hH : ws_I Γ b W sd H) (hv : iv (c + 1) W) (hk : k < mo_n (W 13)) (hee : W (507 + 5 * k) = nI 0) (hpp : W (507 + 5 * k + 2) = nI p) (hp : p < 5) : mw_Cr l Γ mX3_givesUp 5 0 0 (ws_A b) [.ref b, .int (nI k)] H none (ws_I Γ b (mo_giveUp (mo_rm W 507 5 13 k) p) sd) := by
  have hvR := iv_rma hv hk
  have hop := ml_opn hvR hp
  have h01 := (hvR.2.2.2.2.2.1 p hp).2.1
  refine mw_ofG (P := pX3_givesUp) (by decide) (ws_As hb) oX3_givesUp (Nat.le_of_ble_eq_true rfl) ?_
  intro pg e0 sg mg below meth cd X hs
  refine mw_pre (I' := ws_I Γ b W sd) (fun H1 h1 => by rw [h1]; exact hH) ?_
  refine mw_steps X 1 (pc' := 1) (lv' := [(0, .ref b), (1, .int (nI k))]) (st' := [.ref b]) rfl ?_
  refine mw_get X kf_X3_23.fl kc_3 rfl (v := .ref (b + 5)) (fun H h => ⟨_, h.1, rfl⟩) ?_
  refine mw_steps X 2 (pc' := 6) (lv' := [(0, .ref b), (1, .int (nI k))]) (st' := [.int (nI 0), .int (nI k), .ref (b + 5)]) rfl ?_
  refine mw_cV2r X kd_X2_at kv_X2_at kl_X3_98 (ci := 2) rfl rfl (Nat.le_of_ble_eq_true rfl) ⟨Nat.le_of_ble_eq_true rfl, Nat.le_of_ble_eq_true rfl⟩ ⟨Nat.le_of_ble_eq_true rfl, Nat.le_of_ble_eq_true rfl⟩ (ws_sub 5 (by omega)) (fun H h => ⟨h.o_asked, y3_at0 hb h hk⟩) ?_
  refine mw_top (y := nI 0) hee ?_
  refine mw_steps X 2 (pc' := 11) (lv' := [(2, .int (nI 0)), (0, .ref b), (1, .int (nI k))]) (st' := [.ref b]) rfl ?_
  refine mw_get X kf_X3_23.fl kc_3 rfl (v := .ref (b + 5)) (fun H h => ⟨_, h.1, rfl⟩) ?_
  refine mw_steps X 2 (pc' := 16) (lv' := [(2, .int (nI 0)), (0, .ref b), (1, .int (nI k))]) (st' := [.int (nI 2), .int (nI k), .ref (b + 5)]) rfl ?_
  refine mw_cV2r X kd_X2_at kv_X2_at kl_X3_98 (ci := 2) rfl rfl (Nat.le_of_ble_eq_true rfl) ⟨Nat.le_of_ble_eq_true rfl, Nat.le_of_ble_eq_true rfl⟩ ⟨Nat.le_of_ble_eq_true rfl, Nat.le_of_ble_eq_true rfl⟩ (ws_sub 5 (by omega)) (fun H h => ⟨h.o_asked, y3_at2 hb h hk⟩) ?_
  refine mw_top (y := nI p) hpp ?_
  refine mw_steps X 2 (pc' := 21) (lv' := [(3, .int (nI p)), (2, .int (nI 0)), (0, .ref b), (1, .int (nI k))]) (st' := [.ref b]) rfl ?_
  refine mw_get X kf_X3_23.fl kc_3 rfl (v := .ref (b + 5)) (fun H h => ⟨_, h.1, rfl⟩) ?_
  refine mw_steps X 1 (pc' := 25) (lv' := [(3, .int (nI p)), (2, .int (nI 0)), (0, .ref b), (1, .int (nI k))]) (st' := [.int (nI k), .ref (b + 5)]) rfl ?_
  refine mw_cV1v X kd_X2_drop kv_X2_drop kl_X3_139 (ci := 2) rfl rfl (Nat.le_of_ble_eq_true rfl) ⟨Nat.le_of_ble_eq_true rfl, Nat.le_of_ble_eq_true rfl⟩ ⟨Nat.le_of_ble_eq_true rfl, Nat.le_of_ble_eq_true rfl⟩ (ws_sub 5 (by omega)) (fun H h => ⟨h.o_asked, y3_drop hb h (ml_i13 hv.1) hk⟩) ?_
  refine mw_steps X 2 (pc' := 30) (lv' := [(3, .int (nI p)), (2, .int (nI 0)), (0, .ref b), (1, .int (nI k))]) (st' := [.int (nI 1), .int (nI 0)]) rfl ?_
  refine mw_icmp_ne X 46 rfl rfl (fun c30 => ?_) (fun c30 => absurd c30 (by decide))
  refine mw_steps X 1 (pc' := 47) (lv' := [(3, .int (nI p)), (2, .int (nI 0)), (0, .ref b), (1, .int (nI k))]) (st' := [.int (nI 0)]) rfl ?_
  refine mw_if_ne X 75 rfl rfl (fun c47 => absurd (by decide) c47) (fun c47 => ?_)
  refine mw_steps X 2 (pc' := 52) (lv' := [(3, .int (nI p)), (2, .int (nI 0)), (0, .ref b), (1, .int (nI k))]) (st' := [.int (nI p), .ref b]) rfl ?_
  refine mw_cV1r X kd_X3_isOpen kv_X3_isOpen kl_X3_113 (ci := 3) rfl rfl (Nat.le_of_ble_eq_true rfl) ⟨Nat.le_of_ble_eq_true rfl, Nat.le_of_ble_eq_true rfl⟩ ⟨Nat.le_of_ble_eq_true rfl, Nat.le_of_ble_eq_true rfl⟩ (fun _ h => h) (fun H h => ⟨⟨_, h.1⟩, zw_isOpen hb h hp⟩) ?_
  refine mw_if_eq X 75 rfl rfl (fun c55 => ?_) (fun c55 => ?_)
  · exact mw_vret X rfl rfl (fun H h => ⟨rfl, by rw [show mo_giveUp (mo_rm W 507 5 13 k) p = mo_rm W 507 5 13 k from by exact ml_giveUp_t (by first | exact Or.inl (by have := mo_b_z c55; rw [hop] at this; exact Int32.not_le.mp (of_decide_eq_false this)) | exact Or.inr (by rcases h01 with q | q; exact absurd q c67; exact q))]; exact h⟩)
  · refine mw_steps X 1 (pc' := 59) (lv' := [(3, .int (nI p)), (2, .int (nI 0)), (0, .ref b), (1, .int (nI k))]) (st' := [.ref b]) rfl ?_
    refine mw_get X kf_X3_26.fl kc_3 rfl (v := .ref (b + 7)) (fun H h => ⟨_, h.1, rfl⟩) ?_
    refine mw_steps X 2 (pc' := 64) (lv' := [(3, .int (nI p)), (2, .int (nI 0)), (0, .ref b), (1, .int (nI k))]) (st' := [.int (nI 1), .int (nI p), .ref (b + 7)]) rfl ?_
    refine mw_cV2r X kd_X2_at kv_X2_at kl_X3_98 (ci := 2) rfl rfl (Nat.le_of_ble_eq_true rfl) ⟨Nat.le_of_ble_eq_true rfl, Nat.le_of_ble_eq_true rfl⟩ ⟨Nat.le_of_ble_eq_true rfl, Nat.le_of_ble_eq_true rfl⟩ (ws_sub 7 (by omega)) (fun H h => ⟨h.o_places, y4_at1 hb h hp⟩) ?_
    refine mw_if_ne X 75 rfl rfl (fun c67 => ?_) (fun c67 => ?_)
    · exact mw_vret X rfl rfl (fun H h => ⟨rfl, by rw [show mo_giveUp (mo_rm W 507 5 13 k) p = mo_rm W 507 5 13 k from by exact ml_giveUp_t (by first | exact Or.inl (by have := mo_b_z c55; rw [hop] at this; exact Int32.not_le.mp (of_decide_eq_false this)) | exact Or.inr (by rcases h01 with q | q; exact absurd q c67; exact q))]; exact h⟩)
    · refine mw_steps X 2 (pc' := 72) (lv' := [(3, .int (nI p)), (2, .int (nI 0)), (0, .ref b), (1, .int (nI k))]) (st' := [.int (nI p), .ref b]) rfl ?_
      refine mw_cV1v X kd_X3_leaves kv_X3_leaves kl_X3_237 (ci := 3) rfl rfl (Nat.le_of_ble_eq_true rfl) ⟨Nat.le_of_ble_eq_true rfl, Nat.le_of_ble_eq_true rfl⟩ ⟨Nat.le_of_ble_eq_true rfl, Nat.le_of_ble_eq_true rfl⟩ (fun _ h => h) (fun H h => ⟨⟨_, h.1⟩, zw_leave hb h hvR hp⟩) ?_
      exact mw_vret X rfl rfl (fun H h => ⟨rfl, by rw [show mo_giveUp (mo_rm W 507 5 13 k) p = mo_leave (mo_back (mo_rm W 507 5 13 k) p) p from by exact ml_giveUp_f (by have := mo_b_nz c55; rw [hop] at this; exact Int32.not_lt.mpr (of_decide_eq_true this)) (fun q => by rw [q] at c67; exact absurd c67 (by decide))]; exact h⟩)
set_option maxHeartbeats 4000000 in
set_option maxRecDepth 20000 in
theorem zw_gives1 {l : Launch} {Γ : mw_C} {b : Nat} (hb : Γ.2.2.2 ≤ b) {W : Nat → Int32} {sd : Int32} {H : Heap} {k p c : Nat} (hH : ws_I Γ b W sd H) (hv : iv (c + 1) W) (hk : k < mo_n (W 13)) (hee : W (507 + 5 * k) = nI 1) (hpp : W (507 + 5 * k + 2) = nI p) (hp : p < 5) : mw_Cr l Γ mX3_givesUp 5 0 0 (ws_A b) [.ref b, .int (nI k)] H none (ws_I Γ b (mo_forget (mo_rm W 507 5 13 k) p) sd) := by
  have hvR := iv_rma hv hk
  have hop := ml_opn hvR hp
  have h01 := (hvR.2.2.2.2.2.1 p hp).2.1
  refine mw_ofG (P := pX3_givesUp) (by decide) (ws_As hb) oX3_givesUp (Nat.le_of_ble_eq_true rfl) ?_
  intro pg e0 sg mg below meth cd X hs
  refine mw_pre (I' := ws_I Γ b W sd) (fun H1 h1 => by rw [h1]; exact hH) ?_
  refine mw_steps X 1 (pc' := 1) (lv' := [(0, .ref b), (1, .int (nI k))]) (st' := [.ref b]) rfl ?_
  refine mw_get X kf_X3_23.fl kc_3 rfl (v := .ref (b + 5)) (fun H h => ⟨_, h.1, rfl⟩) ?_
  refine mw_steps X 2 (pc' := 6) (lv' := [(0, .ref b), (1, .int (nI k))]) (st' := [.int (nI 0), .int (nI k), .ref (b + 5)]) rfl ?_
  refine mw_cV2r X kd_X2_at kv_X2_at kl_X3_98 (ci := 2) rfl rfl (Nat.le_of_ble_eq_true rfl) ⟨Nat.le_of_ble_eq_true rfl, Nat.le_of_ble_eq_true rfl⟩ ⟨Nat.le_of_ble_eq_true rfl, Nat.le_of_ble_eq_true rfl⟩ (ws_sub 5 (by omega)) (fun H h => ⟨h.o_asked, y3_at0 hb h hk⟩) ?_
  refine mw_top (y := nI 1) hee ?_
  refine mw_steps X 2 (pc' := 11) (lv' := [(2, .int (nI 1)), (0, .ref b), (1, .int (nI k))]) (st' := [.ref b]) rfl ?_
  refine mw_get X kf_X3_23.fl kc_3 rfl (v := .ref (b + 5)) (fun H h => ⟨_, h.1, rfl⟩) ?_
  refine mw_steps X 2 (pc' := 16) (lv' := [(2, .int (nI 1)), (0, .ref b), (1, .int (nI k))]) (st' := [.int (nI 2), .int (nI k), .ref (b + 5)]) rfl ?_
  refine mw_cV2r X kd_X2_at kv_X2_at kl_X3_98 (ci := 2) rfl rfl (Nat.le_of_ble_eq_true rfl) ⟨Nat.le_of_ble_eq_true rfl, Nat.le_of_ble_eq_true rfl⟩ ⟨Nat.le_of_ble_eq_true rfl, Nat.le_of_ble_eq_true rfl⟩ (ws_sub 5 (by omega)) (fun H h => ⟨h.o_asked, y3_at2 hb h hk⟩) ?_
  refine mw_top (y := nI p) hpp ?_
  refine mw_steps X 2 (pc' := 21) (lv' := [(3, .int (nI p)), (2, .int (nI 1)), (0, .ref b), (1, .int (nI k))]) (st' := [.ref b]) rfl ?_
  refine mw_get X kf_X3_23.fl kc_3 rfl (v := .ref (b + 5)) (fun H h => ⟨_, h.1, rfl⟩) ?_
  refine mw_steps X 1 (pc' := 25) (lv' := [(3, .int (nI p)), (2, .int (nI 1)), (0, .ref b), (1, .int (nI k))]) (st' := [.int (nI k), .ref (b + 5)]) rfl ?_
  refine mw_cV1v X kd_X2_drop kv_X2_drop kl_X3_139 (ci := 2) rfl rfl (Nat.le_of_ble_eq_true rfl) ⟨Nat.le_of_ble_eq_true rfl, Nat.le_of_ble_eq_true rfl⟩ ⟨Nat.le_of_ble_eq_true rfl, Nat.le_of_ble_eq_true rfl⟩ (ws_sub 5 (by omega)) (fun H h => ⟨h.o_asked, y3_drop hb h (ml_i13 hv.1) hk⟩) ?_
  refine mw_steps X 2 (pc' := 30) (lv' := [(3, .int (nI p)), (2, .int (nI 1)), (0, .ref b), (1, .int (nI k))]) (st' := [.int (nI 1), .int (nI 1)]) rfl ?_
  refine mw_icmp_ne X 46 rfl rfl (fun c30 => absurd (by decide) c30) (fun c30 => ?_)
  refine mw_steps X 2 (pc' := 35) (lv' := [(3, .int (nI p)), (2, .int (nI 1)), (0, .ref b), (1, .int (nI k))]) (st' := [.int (nI p), .ref b]) rfl ?_
  refine mw_cV1r X kd_X3_isProved kv_X3_isProved kl_X3_109 (ci := 3) rfl rfl (Nat.le_of_ble_eq_true rfl) ⟨Nat.le_of_ble_eq_true rfl, Nat.le_of_ble_eq_true rfl⟩ ⟨Nat.le_of_ble_eq_true rfl, Nat.le_of_ble_eq_true rfl⟩ (fun _ h => h) (fun H h => ⟨⟨_, h.1⟩, zw_isProved hb h hp⟩) ?_
  refine mw_if_ne X 46 rfl rfl (fun c38 => ?_) (fun c38 => ?_)
  · refine mw_steps X 1 (pc' := 47) (lv' := [(3, .int (nI p)), (2, .int (nI 1)), (0, .ref b), (1, .int (nI k))]) (st' := [.int (nI 1)]) rfl ?_
    refine mw_if_ne X 75 rfl rfl (fun c47 => ?_) (fun c47 => absurd c47 (by decide))
    exact mw_vret X rfl rfl (fun H h => ⟨rfl, by rw [show mo_forget (mo_rm W 507 5 13 k) p = mo_rm W 507 5 13 k from by exact ml_forget_t (of_decide_eq_true (mo_b_nz c38))]; exact h⟩)
  · refine mw_steps X 2 (pc' := 43) (lv' := [(3, .int (nI p)), (2, .int (nI 1)), (0, .ref b), (1, .int (nI k))]) (st' := [.int (nI p), .ref b]) rfl ?_
    refine mw_cV1v X kd_X3_forgets kv_X3_forgets kl_X3_234 (ci := 3) rfl rfl (Nat.le_of_ble_eq_true rfl) ⟨Nat.le_of_ble_eq_true rfl, Nat.le_of_ble_eq_true rfl⟩ ⟨Nat.le_of_ble_eq_true rfl, Nat.le_of_ble_eq_true rfl⟩ (fun _ h => h) (fun H h => ⟨⟨_, h.1⟩, zw_forget hb h hvR hp (of_decide_eq_false (mo_b_z c38))⟩) ?_
    refine mw_steps X 1 (pc' := 47) (lv' := [(3, .int (nI p)), (2, .int (nI 1)), (0, .ref b), (1, .int (nI k))]) (st' := [.int (nI 1)]) rfl ?_
    refine mw_if_ne X 75 rfl rfl (fun c47 => ?_) (fun c47 => absurd c47 (by decide))
    exact mw_vret X rfl rfl (fun H h => ⟨rfl, by rw [show mo_forget (mo_rm W 507 5 13 k) p = mo_forget (mo_rm W 507 5 13 k) p from by rfl]; exact h⟩)
set_option maxHeartbeats 4000000 in
set_option maxRecDepth 20000 in
theorem zw_asks0 {l : Launch} {Γ : mw_C} {b : Nat} (hb : Γ.2.2.2 ≤ b) {W : Nat → Int32} {sd : Int32} {H : Heap} {k p c : Nat} (hH : ws_I Γ b W sd H) (hv : iv c W) (hk : k < mo_n (W 13)) (hee : W (507 + 5 * k) = nI 0) (hpp : W (507 + 5 * k + 2) = nI p) (hp : p < 5) : mw_Cr l Γ mX3_asksAgain 4 0 0 (ws_A b) [.ref b, .int (nI k)] H none (ws_I Γ b (mo_goes (upd (upd W (507 + 5 * k + 4) ((W (507 + 5 * k + 4)) + (nI 1))) (507 + 5 * k + 3) (W 0)) 0 p 1 (W (507 + 5 * k + 1))) sd) := by
  obtain ⟨n, hn2, hn⟩ := hv.1.2.2
  have hnn : mo_n (W 13) = n := by rw [hn, ml_n (by omega)]
  rw [hnn] at hk
  refine mw_ofG (P := pX3_asksAgain) (by decide) (ws_As hb) oX3_asksAgain (Nat.le_of_ble_eq_true rfl) ?_
  intro pg e0 sg mg below meth cd X hs
  refine mw_pre (I' := ws_I Γ b W sd) (fun H1 h1 => by rw [h1]; exact hH) ?_
  refine mw_steps X 1 (pc' := 1) (lv' := [(0, .ref b), (1, .int (nI k))]) (st' := [.ref b]) rfl ?_
  refine mw_get X kf_X3_23.fl kc_3 rfl (v := .ref (b + 5)) (fun H h => ⟨_, h.1, rfl⟩) ?_
  refine mw_steps X 3 (pc' := 7) (lv' := [(0, .ref b), (1, .int (nI k))]) (st' := [.ref b, .int (nI 4), .int (nI k), .ref (b + 5)]) rfl ?_
  refine mw_get X kf_X3_23.fl kc_3 rfl (v := .ref (b + 5)) (fun H h => ⟨_, h.1, rfl⟩) ?_
  refine mw_steps X 2 (pc' := 12) (lv' := [(0, .ref b), (1, .int (nI k))]) (st' := [.int (nI 4), .int (nI k), .ref (b + 5), .int (nI 4), .int (nI k), .ref (b + 5)]) rfl ?_
  refine mw_cV2r X kd_X2_at kv_X2_at kl_X3_98 (ci := 2) rfl rfl (Nat.le_of_ble_eq_true rfl) ⟨Nat.le_of_ble_eq_true rfl, Nat.le_of_ble_eq_true rfl⟩ ⟨Nat.le_of_ble_eq_true rfl, Nat.le_of_ble_eq_true rfl⟩ (ws_sub 5 (by omega)) (fun H h => ⟨h.o_asked, y3_at4 hb h (by rw [hnn]; omega)⟩) ?_
  refine mw_steps X 2 (pc' := 17) (lv' := [(0, .ref b), (1, .int (nI k))]) (st' := [.int ((W (507 + 5 * k + 4)) + (nI 1)), .int (nI 4), .int (nI k), .ref (b + 5)]) rfl ?_
  refine mw_cV3v X kd_X2_put kv_X2_put kl_X3_69 (ci := 2) rfl rfl (Nat.le_of_ble_eq_true rfl) ⟨Nat.le_of_ble_eq_true rfl, Nat.le_of_ble_eq_true rfl⟩ ⟨Nat.le_of_ble_eq_true rfl, Nat.le_of_ble_eq_true rfl⟩ (ws_sub 5 (by omega)) (fun H h => ⟨h.o_asked, y3_put4 hb h (by rw [hnn]; omega)⟩) ?_
  refine mw_steps X 1 (pc' := 21) (lv' := [(0, .ref b), (1, .int (nI k))]) (st' := [.ref b]) rfl ?_
  refine mw_get X kf_X3_23.fl kc_3 rfl (v := .ref (b + 5)) (fun H h => ⟨_, h.1, rfl⟩) ?_
  refine mw_steps X 3 (pc' := 27) (lv' := [(0, .ref b), (1, .int (nI k))]) (st' := [.ref b, .int (nI 3), .int (nI k), .ref (b + 5)]) rfl ?_
  refine mw_get X kf_X3_89.fl kc_3 rfl (v := .int (W (0))) (fun H h => ⟨_, h.1, congrArg (fun z => some (Value.int z)) (by simp (disch := omega) only [pk_un])⟩) ?_
  refine mw_cV3v X kd_X2_put kv_X2_put kl_X3_69 (ci := 2) rfl rfl (Nat.le_of_ble_eq_true rfl) ⟨Nat.le_of_ble_eq_true rfl, Nat.le_of_ble_eq_true rfl⟩ ⟨Nat.le_of_ble_eq_true rfl, Nat.le_of_ble_eq_true rfl⟩ (ws_sub 5 (by omega)) (fun H h => ⟨h.o_asked, y3_put3 hb h (by rw [((congrArg mo_n (by simp (disch := omega) only [pk_un])).trans hnn)]; omega)⟩) ?_
  refine mw_steps X 2 (pc' := 35) (lv' := [(0, .ref b), (1, .int (nI k))]) (st' := [.ref b, .ref b]) rfl ?_
  refine mw_get X kf_X3_23.fl kc_3 rfl (v := .ref (b + 5)) (fun H h => ⟨_, h.1, rfl⟩) ?_
  refine mw_steps X 2 (pc' := 40) (lv' := [(0, .ref b), (1, .int (nI k))]) (st' := [.int (nI 0), .int (nI k), .ref (b + 5), .ref b]) rfl ?_
  refine mw_cV2r X kd_X2_at kv_X2_at kl_X3_98 (ci := 2) rfl rfl (Nat.le_of_ble_eq_true rfl) ⟨Nat.le_of_ble_eq_true rfl, Nat.le_of_ble_eq_true rfl⟩ ⟨Nat.le_of_ble_eq_true rfl, Nat.le_of_ble_eq_true rfl⟩ (ws_sub 5 (by omega)) (fun H h => ⟨h.o_asked, y3_at0 hb h (by rw [((congrArg mo_n (by simp (disch := omega) only [pk_un])).trans hnn)]; omega)⟩) ?_
  refine mw_top (y := nI 0) (by simp (disch := omega) only [pk_un]; exact hee) ?_
  refine mw_steps X 1 (pc' := 44) (lv' := [(0, .ref b), (1, .int (nI k))]) (st' := [.ref b, .int (nI 0), .ref b]) rfl ?_
  refine mw_get X kf_X3_23.fl kc_3 rfl (v := .ref (b + 5)) (fun H h => ⟨_, h.1, rfl⟩) ?_
  refine mw_steps X 2 (pc' := 49) (lv' := [(0, .ref b), (1, .int (nI k))]) (st' := [.int (nI 2), .int (nI k), .ref (b + 5), .int (nI 0), .ref b]) rfl ?_
  refine mw_cV2r X kd_X2_at kv_X2_at kl_X3_98 (ci := 2) rfl rfl (Nat.le_of_ble_eq_true rfl) ⟨Nat.le_of_ble_eq_true rfl, Nat.le_of_ble_eq_true rfl⟩ ⟨Nat.le_of_ble_eq_true rfl, Nat.le_of_ble_eq_true rfl⟩ (ws_sub 5 (by omega)) (fun H h => ⟨h.o_asked, y3_at2 hb h (by rw [((congrArg mo_n (by simp (disch := omega) only [pk_un])).trans hnn)]; omega)⟩) ?_
  refine mw_top (y := nI p) (by simp (disch := omega) only [pk_un]; exact hpp) ?_
  refine mw_steps X 2 (pc' := 54) (lv' := [(0, .ref b), (1, .int (nI k))]) (st' := [.ref b, .int (nI 1), .int (nI p), .int (nI 0), .ref b]) rfl ?_
  refine mw_get X kf_X3_23.fl kc_3 rfl (v := .ref (b + 5)) (fun H h => ⟨_, h.1, rfl⟩) ?_
  refine mw_steps X 2 (pc' := 59) (lv' := [(0, .ref b), (1, .int (nI k))]) (st' := [.int (nI 1), .int (nI k), .ref (b + 5), .int (nI 1), .int (nI p), .int (nI 0), .ref b]) rfl ?_
  refine mw_cV2r X kd_X2_at kv_X2_at kl_X3_98 (ci := 2) rfl rfl (Nat.le_of_ble_eq_true rfl) ⟨Nat.le_of_ble_eq_true rfl, Nat.le_of_ble_eq_true rfl⟩ ⟨Nat.le_of_ble_eq_true rfl, Nat.le_of_ble_eq_true rfl⟩ (ws_sub 5 (by omega)) (fun H h => ⟨h.o_asked, y3_at1 hb h (by rw [((congrArg mo_n (by simp (disch := omega) only [pk_un])).trans hnn)]; omega)⟩) ?_
  refine mw_top (y := W (507 + 5 * k + 1)) (by simp (disch := omega) only [pk_un]) ?_
  refine mw_cV4v X kd_X3_writes kv_X3_writes kl_X3_198 (ci := 3) rfl rfl (Nat.le_of_ble_eq_true rfl) ⟨Nat.le_of_ble_eq_true rfl, Nat.le_of_ble_eq_true rfl⟩ ⟨Nat.le_of_ble_eq_true rfl, Nat.le_of_ble_eq_true rfl⟩ (fun _ h => h) (fun H h => ⟨⟨_, h.1⟩, zw_goes0 hb h (hv.1.cg (fun j a c => by rw [pk_un (by omega), pk_un (by omega)])) hp (by omega)⟩) ?_
  exact mw_vret X rfl rfl (fun H h => ⟨rfl, h⟩)
set_option maxHeartbeats 4000000 in
set_option maxRecDepth 20000 in
theorem zw_asks1 {l : Launch} {Γ : mw_C} {b : Nat} (hb : Γ.2.2.2 ≤ b) {W : Nat → Int32} {sd : Int32} {H : Heap} {k p c : Nat} (hH : ws_I Γ b W sd H) (hv : iv c W) (hk : k < mo_n (W 13)) (hee : W (507 + 5 * k) = nI 1) (hpp : W (507 + 5 * k + 2) = nI p) (hp : p < 5) : mw_Cr l Γ mX3_asksAgain 4 0 0 (ws_A b) [.ref b, .int (nI k)] H none (ws_I Γ b (mo_goes (upd (upd W (507 + 5 * k + 4) ((W (507 + 5 * k + 4)) + (nI 1))) (507 + 5 * k + 3) (W 0)) 1 p 1 (W (507 + 5 * k + 1))) sd) := by
  obtain ⟨n, hn2, hn⟩ := hv.1.2.2
  have hnn : mo_n (W 13) = n := by rw [hn, ml_n (by omega)]
  rw [hnn] at hk
  refine mw_ofG (P := pX3_asksAgain) (by decide) (ws_As hb) oX3_asksAgain (Nat.le_of_ble_eq_true rfl) ?_
  intro pg e0 sg mg below meth cd X hs
  refine mw_pre (I' := ws_I Γ b W sd) (fun H1 h1 => by rw [h1]; exact hH) ?_
  refine mw_steps X 1 (pc' := 1) (lv' := [(0, .ref b), (1, .int (nI k))]) (st' := [.ref b]) rfl ?_
  refine mw_get X kf_X3_23.fl kc_3 rfl (v := .ref (b + 5)) (fun H h => ⟨_, h.1, rfl⟩) ?_
  refine mw_steps X 3 (pc' := 7) (lv' := [(0, .ref b), (1, .int (nI k))]) (st' := [.ref b, .int (nI 4), .int (nI k), .ref (b + 5)]) rfl ?_
  refine mw_get X kf_X3_23.fl kc_3 rfl (v := .ref (b + 5)) (fun H h => ⟨_, h.1, rfl⟩) ?_
  refine mw_steps X 2 (pc' := 12) (lv' := [(0, .ref b), (1, .int (nI k))]) (st' := [.int (nI 4), .int (nI k), .ref (b + 5), .int (nI 4), .int (nI k), .ref (b + 5)]) rfl ?_
  refine mw_cV2r X kd_X2_at kv_X2_at kl_X3_98 (ci := 2) rfl rfl (Nat.le_of_ble_eq_true rfl) ⟨Nat.le_of_ble_eq_true rfl, Nat.le_of_ble_eq_true rfl⟩ ⟨Nat.le_of_ble_eq_true rfl, Nat.le_of_ble_eq_true rfl⟩ (ws_sub 5 (by omega)) (fun H h => ⟨h.o_asked, y3_at4 hb h (by rw [hnn]; omega)⟩) ?_
  refine mw_steps X 2 (pc' := 17) (lv' := [(0, .ref b), (1, .int (nI k))]) (st' := [.int ((W (507 + 5 * k + 4)) + (nI 1)), .int (nI 4), .int (nI k), .ref (b + 5)]) rfl ?_
  refine mw_cV3v X kd_X2_put kv_X2_put kl_X3_69 (ci := 2) rfl rfl (Nat.le_of_ble_eq_true rfl) ⟨Nat.le_of_ble_eq_true rfl, Nat.le_of_ble_eq_true rfl⟩ ⟨Nat.le_of_ble_eq_true rfl, Nat.le_of_ble_eq_true rfl⟩ (ws_sub 5 (by omega)) (fun H h => ⟨h.o_asked, y3_put4 hb h (by rw [hnn]; omega)⟩) ?_
  refine mw_steps X 1 (pc' := 21) (lv' := [(0, .ref b), (1, .int (nI k))]) (st' := [.ref b]) rfl ?_
  refine mw_get X kf_X3_23.fl kc_3 rfl (v := .ref (b + 5)) (fun H h => ⟨_, h.1, rfl⟩) ?_
  refine mw_steps X 3 (pc' := 27) (lv' := [(0, .ref b), (1, .int (nI k))]) (st' := [.ref b, .int (nI 3), .int (nI k), .ref (b + 5)]) rfl ?_
  refine mw_get X kf_X3_89.fl kc_3 rfl (v := .int (W (0))) (fun H h => ⟨_, h.1, congrArg (fun z => some (Value.int z)) (by simp (disch := omega) only [pk_un])⟩) ?_
  refine mw_cV3v X kd_X2_put kv_X2_put kl_X3_69 (ci := 2) rfl rfl (Nat.le_of_ble_eq_true rfl) ⟨Nat.le_of_ble_eq_true rfl, Nat.le_of_ble_eq_true rfl⟩ ⟨Nat.le_of_ble_eq_true rfl, Nat.le_of_ble_eq_true rfl⟩ (ws_sub 5 (by omega)) (fun H h => ⟨h.o_asked, y3_put3 hb h (by rw [((congrArg mo_n (by simp (disch := omega) only [pk_un])).trans hnn)]; omega)⟩) ?_
  refine mw_steps X 2 (pc' := 35) (lv' := [(0, .ref b), (1, .int (nI k))]) (st' := [.ref b, .ref b]) rfl ?_
  refine mw_get X kf_X3_23.fl kc_3 rfl (v := .ref (b + 5)) (fun H h => ⟨_, h.1, rfl⟩) ?_
  refine mw_steps X 2 (pc' := 40) (lv' := [(0, .ref b), (1, .int (nI k))]) (st' := [.int (nI 0), .int (nI k), .ref (b + 5), .ref b]) rfl ?_
  refine mw_cV2r X kd_X2_at kv_X2_at kl_X3_98 (ci := 2) rfl rfl (Nat.le_of_ble_eq_true rfl) ⟨Nat.le_of_ble_eq_true rfl, Nat.le_of_ble_eq_true rfl⟩ ⟨Nat.le_of_ble_eq_true rfl, Nat.le_of_ble_eq_true rfl⟩ (ws_sub 5 (by omega)) (fun H h => ⟨h.o_asked, y3_at0 hb h (by rw [((congrArg mo_n (by simp (disch := omega) only [pk_un])).trans hnn)]; omega)⟩) ?_
  refine mw_top (y := nI 1) (by simp (disch := omega) only [pk_un]; exact hee) ?_
  refine mw_steps X 1 (pc' := 44) (lv' := [(0, .ref b), (1, .int (nI k))]) (st' := [.ref b, .int (nI 1), .ref b]) rfl ?_
  refine mw_get X kf_X3_23.fl kc_3 rfl (v := .ref (b + 5)) (fun H h => ⟨_, h.1, rfl⟩) ?_
  refine mw_steps X 2 (pc' := 49) (lv' := [(0, .ref b), (1, .int (nI k))]) (st' := [.int (nI 2), .int (nI k), .ref (b + 5), .int (nI 1), .ref b]) rfl ?_
  refine mw_cV2r X kd_X2_at kv_X2_at kl_X3_98 (ci := 2) rfl rfl (Nat.le_of_ble_eq_true rfl) ⟨Nat.le_of_ble_eq_true rfl, Nat.le_of_ble_eq_true rfl⟩ ⟨Nat.le_of_ble_eq_true rfl, Nat.le_of_ble_eq_true rfl⟩ (ws_sub 5 (by omega)) (fun H h => ⟨h.o_asked, y3_at2 hb h (by rw [((congrArg mo_n (by simp (disch := omega) only [pk_un])).trans hnn)]; omega)⟩) ?_
  refine mw_top (y := nI p) (by simp (disch := omega) only [pk_un]; exact hpp) ?_
  refine mw_steps X 2 (pc' := 54) (lv' := [(0, .ref b), (1, .int (nI k))]) (st' := [.ref b, .int (nI 1), .int (nI p), .int (nI 1), .ref b]) rfl ?_
  refine mw_get X kf_X3_23.fl kc_3 rfl (v := .ref (b + 5)) (fun H h => ⟨_, h.1, rfl⟩) ?_
  refine mw_steps X 2 (pc' := 59) (lv' := [(0, .ref b), (1, .int (nI k))]) (st' := [.int (nI 1), .int (nI k), .ref (b + 5), .int (nI 1), .int (nI p), .int (nI 1), .ref b]) rfl ?_
  refine mw_cV2r X kd_X2_at kv_X2_at kl_X3_98 (ci := 2) rfl rfl (Nat.le_of_ble_eq_true rfl) ⟨Nat.le_of_ble_eq_true rfl, Nat.le_of_ble_eq_true rfl⟩ ⟨Nat.le_of_ble_eq_true rfl, Nat.le_of_ble_eq_true rfl⟩ (ws_sub 5 (by omega)) (fun H h => ⟨h.o_asked, y3_at1 hb h (by rw [((congrArg mo_n (by simp (disch := omega) only [pk_un])).trans hnn)]; omega)⟩) ?_
  refine mw_top (y := W (507 + 5 * k + 1)) (by simp (disch := omega) only [pk_un]) ?_
  refine mw_cV4v X kd_X3_writes kv_X3_writes kl_X3_198 (ci := 3) rfl rfl (Nat.le_of_ble_eq_true rfl) ⟨Nat.le_of_ble_eq_true rfl, Nat.le_of_ble_eq_true rfl⟩ ⟨Nat.le_of_ble_eq_true rfl, Nat.le_of_ble_eq_true rfl⟩ (fun _ h => h) (fun H h => ⟨⟨_, h.1⟩, zw_goes1 hb h (hv.1.cg (fun j a c => by rw [pk_un (by omega), pk_un (by omega)])) hp (by omega)⟩) ?_
  exact mw_vret X rfl rfl (fun H h => ⟨rfl, h⟩)
theorem zw_look2 {l : Launch} {Γ : mw_C} {b : Nat} (hb : Γ.2.2.2 ≤ b) {W : Nat → Int32} {sd : Int32} {H : Heap} {k c : Nat} (hH : ws_I Γ b W sd H) (hv : iv c W) (hk : k < mo_n (W 13)) (h1 : ¬ W 0 - W (507 + 5 * k + 3) < nI 3) (h2 : W (507 + 5 * k + 4) < nI 2) : mw_Cr l Γ mX3_asksAgain 4 0 0 (ws_A b) [.ref b, .int (nI k)] H none (ws_I Γ b (mo_look W k) sd) := by
  obtain ⟨e, p, t, a1, a2, a3, a4, a5, a6⟩ := hv.2.2.2.2.1 k hk
  rw [(ml_look_2 h1 h2 a4 a5 a1 a2).2]
  rcases (show e = 0 ∨ e = 1 by omega) with rfl | rfl
  · exact zw_asks0 hb hH hv hk a4 a5 a2
  · exact zw_asks1 hb hH hv hk a4 a5 a2
theorem zw_look3 {l : Launch} {Γ : mw_C} {b : Nat} (hb : Γ.2.2.2 ≤ b) {W : Nat → Int32} {sd : Int32} {H : Heap} {k c : Nat} (hH : ws_I Γ b W sd H) (hv : iv (c + 1) W) (hk : k < mo_n (W 13)) (h1 : ¬ W 0 - W (507 + 5 * k + 3) < nI 3) (h2 : ¬ W (507 + 5 * k + 4) < nI 2) : mw_Cr l Γ mX3_givesUp 5 0 0 (ws_A b) [.ref b, .int (nI k)] H none (ws_I Γ b (mo_look W k) sd) := by
  obtain ⟨e, p, t, a1, a2, a3, a4, a5, a6⟩ := hv.2.2.2.2.1 k hk
  rw [(ml_look_3 h1 h2 a4 a5 a1 a2).2]
  rcases (show e = 0 ∨ e = 1 by omega) with rfl | rfl
  · rw [if_neg (show ¬ nI 0 = nI 1 by decide)]
    exact zw_gives0 hb hH hv hk a4 a5 a2
  · rw [if_pos rfl]
    exact zw_gives1 hb hH hv hk a4 a5 a2
set_option maxHeartbeats 4000000 in
set_option maxRecDepth 20000 in
theorem zw_tick {l : Launch} {Γ : mw_C} {b : Nat} (hb : Γ.2.2.2 ≤ b) {W : Nat → Int32} {sd : Int32} {H : Heap} {c : Nat} (hH : ws_I Γ b W sd H) (hv : iv (c + 12) W) : mw_Cr l Γ mX3_passes 6 0 0 (ws_A b) [.ref b] H none (ws_I Γ b (mo_tick W) sd) := by
  obtain ⟨W0, hW0⟩ : ∃ W0, W0 = upd W 0 (W 0 + nI 1) := ⟨_, rfl⟩
  have hi0 : iv (c + 12) W0 := by rw [hW0]; exact hv.free (fun j a => pk_un (by omega))
  have h13 : W0 13 = W 13 := by rw [hW0, pk_un (by omega)]
  have hn2 := ml_n6 hi0.1
  obtain ⟨n0, hn0⟩ : ∃ n0, mo_n (W0 13) = n0 := ⟨_, rfl⟩
  refine mw_ofG (P := pX3_passes) (by decide) (ws_As hb) oX3_passes (Nat.le_of_ble_eq_true rfl) ?_
  intro pg e0 sg mg below meth cd X hs
  refine mw_pre (I' := ws_I Γ b W sd) (fun H1 h1 => by rw [h1]; exact hH) ?_
  refine mw_steps X 2 (pc' := 2) (lv' := [(0, .ref b)]) (st' := [.ref b, .ref b]) rfl ?_
  refine mw_get X kf_X3_89.fl kc_3 rfl (v := .int (W (0))) (fun H h => ⟨_, h.1, rfl⟩) ?_
  refine mw_steps X 2 (pc' := 7) (lv' := [(0, .ref b)]) (st' := [.int ((W (0)) + (nI 1)), .ref b]) rfl ?_
  refine mw_put X kf_X3_89.fl kc_3 ⟨_, _, _, .int, rfl, rfl, by decide, rfl, rfl⟩ rfl (I1 := ws_I Γ b (upd W (0) ((W (0)) + (nI 1))) sd) (fun H h => ⟨ws_Ab, _, h.1, Nat.le_of_ble_eq_true rfl, fun H1 o c => h.s0 o c⟩) ?_
  rw [show upd W (0) ((W (0)) + (nI 1)) = W0 from hW0.symm]
  refine mw_steps X 3 (pc' := 13) (lv' := [(1, .int (nI 0)), (0, .ref b)]) (st' := [.ref b]) rfl ?_
  refine mw_get X kf_X3_23.fl kc_3 rfl (v := .ref (b + 5)) (fun H h => ⟨_, h.1, rfl⟩) ?_
  refine mw_cV0r X kd_X2_size kv_X2_size kl_X3_102 (ci := 2) rfl rfl (Nat.le_of_ble_eq_true rfl) ⟨Nat.le_of_ble_eq_true rfl, Nat.le_of_ble_eq_true rfl⟩ ⟨Nat.le_of_ble_eq_true rfl, Nat.le_of_ble_eq_true rfl⟩ (ws_sub 5 (by omega)) (fun H h => ⟨h.o_asked, y3_size hb h⟩) ?_
  refine mw_top (y := nI n0) (congrArg nI hn0) ?_
  refine mw_steps X 1 (pc' := 20) (lv' := [(2, .int (nI n0)), (1, .int (nI 0)), (0, .ref b)]) (st' := []) rfl ?_
  refine mw_wf (σ := Nat × Nat × (Nat → Int32)) (fun q => q.1) (fun q => iv (c + 2 * q.1) q.2.2 ∧ q.2.1 + q.1 ≤ mo_n (q.2.2 13) ∧ q.1 ≤ 6 ∧ mo_looks q.1 q.2.1 q.2.2 = mo_tick W) (fun q => ws_I Γ b q.2.2 sd) (fun q => [(2, .int (nI q.1)), (1, .int (nI q.2.1)), (0, .ref b)]) (fun q hq ih => ?_) (n0, 0, W0) ⟨hi0.less (by dsimp only; omega), by simp [hn0], by dsimp only; omega, by unfold mo_tick; rw [← hW0, ← h13, hn0]⟩
  obtain ⟨n, k, V⟩ := q
  obtain ⟨hv2, hk, hn6, hlo⟩ := hq
  dsimp only at hv2 hk hn6 hlo ⊢
  have hvn := ml_n6 hv2.1
  cases n with
  | zero =>
    refine mw_steps X 1 (pc' := 21) (lv' := [(2, .int (nI 0)), (1, .int (nI k)), (0, .ref b)]) (st' := [.int (nI 0)]) rfl ?_
    refine mw_if_le X 83 rfl rfl (fun c21 => ?_) (fun c21 => absurd (by decide) c21)
    exact mw_vret X rfl rfl (fun H h => ⟨rfl, by rw [← hlo]; exact h⟩)
  | succ n =>
    unfold mo_looks at hlo
    have hl2 := ml_look_n (c := c + 2 * n) (k := k) hv2 (by omega)
    have hi2 : iv (c + 2 * n) (mo_look V k) := iv_look (c := c + 2 * n) hv2 (by omega)
    have hkV : k < mo_n (V 13) := by omega
    obtain ⟨e, p, t, a1, a2, a3, a4, a5, a6⟩ := hv2.2.2.2.2.1 k hkV
    refine mw_steps X 1 (pc' := 21) (lv' := [(2, .int (nI (n + 1))), (1, .int (nI k)), (0, .ref b)]) (st' := [.int (nI (n + 1))]) rfl ?_
    refine mw_if_le X 83 rfl rfl (fun c21 => absurd c21 (nI_nle (by omega) (by omega))) (fun c21 => ?_)
    refine mw_steps X 1 (pc' := 25) (lv' := [(2, .int (nI (n + 1))), (1, .int (nI k)), (0, .ref b)]) (st' := [.ref b]) rfl ?_
    refine mw_get X kf_X3_89.fl kc_3 rfl (v := .int (V (0))) (fun H h => ⟨_, h.1, rfl⟩) ?_
    refine mw_steps X 1 (pc' := 29) (lv' := [(2, .int (nI (n + 1))), (1, .int (nI k)), (0, .ref b)]) (st' := [.ref b, .int (V (0))]) rfl ?_
    refine mw_get X kf_X3_23.fl kc_3 rfl (v := .ref (b + 5)) (fun H h => ⟨_, h.1, rfl⟩) ?_
    refine mw_steps X 2 (pc' := 34) (lv' := [(2, .int (nI (n + 1))), (1, .int (nI k)), (0, .ref b)]) (st' := [.int (nI 3), .int (nI k), .ref (b + 5), .int (V (0))]) rfl ?_
    refine mw_cV2r X kd_X2_at kv_X2_at kl_X3_98 (ci := 2) rfl rfl (Nat.le_of_ble_eq_true rfl) ⟨Nat.le_of_ble_eq_true rfl, Nat.le_of_ble_eq_true rfl⟩ ⟨Nat.le_of_ble_eq_true rfl, Nat.le_of_ble_eq_true rfl⟩ (ws_sub 5 (by omega)) (fun H h => ⟨h.o_asked, y3_at3 hb h hkV⟩) ?_
    refine mw_steps X 2 (pc' := 39) (lv' := [(2, .int (nI (n + 1))), (1, .int (nI k)), (0, .ref b)]) (st' := [.int (nI 3), .int ((V (0)) - (V (507 + 5 * k + 3)))]) rfl ?_
    refine mw_icmp_ge X 48 rfl rfl (fun c39 => ?_) (fun c39 => ?_)
    · refine mw_steps X 1 (pc' := 49) (lv' := [(2, .int (nI (n + 1))), (1, .int (nI k)), (0, .ref b)]) (st' := [.ref b]) rfl ?_
      refine mw_get X kf_X3_23.fl kc_3 rfl (v := .ref (b + 5)) (fun H h => ⟨_, h.1, rfl⟩) ?_
      refine mw_steps X 2 (pc' := 54) (lv' := [(2, .int (nI (n + 1))), (1, .int (nI k)), (0, .ref b)]) (st' := [.int (nI 4), .int (nI k), .ref (b + 5)]) rfl ?_
      refine mw_cV2r X kd_X2_at kv_X2_at kl_X3_98 (ci := 2) rfl rfl (Nat.le_of_ble_eq_true rfl) ⟨Nat.le_of_ble_eq_true rfl, Nat.le_of_ble_eq_true rfl⟩ ⟨Nat.le_of_ble_eq_true rfl, Nat.le_of_ble_eq_true rfl⟩ (ws_sub 5 (by omega)) (fun H h => ⟨h.o_asked, y3_at4 hb h hkV⟩) ?_
      refine mw_steps X 1 (pc' := 58) (lv' := [(2, .int (nI (n + 1))), (1, .int (nI k)), (0, .ref b)]) (st' := [.int (nI 2), .int (V (507 + 5 * k + 4))]) rfl ?_
      refine mw_icmp_ge X 72 rfl rfl (fun c58 => ?_) (fun c58 => ?_)
      · refine mw_steps X 2 (pc' := 74) (lv' := [(2, .int (nI (n + 1))), (1, .int (nI k)), (0, .ref b)]) (st' := [.int (nI k), .ref b]) rfl ?_
        refine mw_cV1v X kd_X3_givesUp kv_X3_givesUp kl_X3_231 (ci := 3) rfl rfl (Nat.le_of_ble_eq_true rfl) ⟨Nat.le_of_ble_eq_true rfl, Nat.le_of_ble_eq_true rfl⟩ ⟨Nat.le_of_ble_eq_true rfl, Nat.le_of_ble_eq_true rfl⟩ (fun _ h => h) (fun H h => ⟨⟨_, h.1⟩, zw_look3 hb h (c := c + 2 * n + 1) hv2 hkV (Int32.not_lt.mpr c39) (Int32.not_lt.mpr c58)⟩) ?_
        refine mw_steps X 2 (pc' := 20) (lv' := [(2, .int ((nI (n + 1)) + (-1))), (1, .int (nI k)), (0, .ref b)]) (st' := []) rfl ?_
        refine mw_lveq (lv' := [(2, .int (nI n)), (1, .int (nI k)), (0, .ref b)]) (by rw [pk_m1]) ?_
        have hst := (ml_look_3 (Int32.not_lt.mpr c39) (Int32.not_lt.mpr c58) a4 a5 a1 a2).1
        rw [hst, if_neg (by decide)] at hlo hl2
        exact ih (n, k, mo_look V k) ⟨hi2, by dsimp only; omega, by dsimp only; omega, hlo⟩ (by dsimp only; omega)
      · refine mw_steps X 2 (pc' := 63) (lv' := [(2, .int (nI (n + 1))), (1, .int (nI k)), (0, .ref b)]) (st' := [.int (nI k), .ref b]) rfl ?_
        refine mw_cV1v X kd_X3_asksAgain kv_X3_asksAgain kl_X3_228 (ci := 3) rfl rfl (Nat.le_of_ble_eq_true rfl) ⟨Nat.le_of_ble_eq_true rfl, Nat.le_of_ble_eq_true rfl⟩ ⟨Nat.le_of_ble_eq_true rfl, Nat.le_of_ble_eq_true rfl⟩ (fun _ h => h) (fun H h => ⟨⟨_, h.1⟩, zw_look2 hb h hv2 hkV (Int32.not_lt.mpr c39) (Int32.not_le.mp c58)⟩) ?_
        refine mw_steps X 4 (pc' := 20) (lv' := [(2, .int ((nI (n + 1)) + (-1))), (1, .int ((nI k) + (nI 1))), (0, .ref b)]) (st' := []) rfl ?_
        refine mw_lveq (lv' := [(2, .int (nI n)), (1, .int (nI (k + 1))), (0, .ref b)]) (by rw [pk_m1, nI_add]) ?_
        have hst := (ml_look_2 (Int32.not_lt.mpr c39) (Int32.not_le.mp c58) a4 a5 a1 a2).1
        rw [hst, if_pos rfl] at hlo hl2
        exact ih (n, k + 1, mo_look V k) ⟨hi2, by dsimp only; omega, by dsimp only; omega, hlo⟩ (by dsimp only; omega)
    · refine mw_steps X 4 (pc' := 20) (lv' := [(2, .int ((nI (n + 1)) + (-1))), (1, .int ((nI k) + (nI 1))), (0, .ref b)]) (st' := []) rfl ?_
      refine mw_lveq (lv' := [(2, .int (nI n)), (1, .int (nI (k + 1))), (0, .ref b)]) (by rw [pk_m1, nI_add]) ?_
      have hst := ml_look_1 (Int32.not_le.mp c39)
      rw [hst.1, if_pos rfl] at hlo hl2
      rw [hst.2] at hlo hi2
      exact ih (n, k + 1, V) ⟨hi2, by dsimp only; omega, by dsimp only; omega, hlo⟩ (by dsimp only; omega)
