set_option maxHeartbeats 4000000 in
set_option maxRecDepth 20000 in
theorem zw_gact0 {l : Launch} {Γ : mw_C} {b : Nat} (hb : Γ.2.2.2 ≤ b) {W : Nat → Int32} {sd : Int32} {H : Heap} {p c v : Nat} (hH : ws_I Γ b W sd H) (hv : iv c W) (hp : p < 5) (hvv : v < 100) : mw_Cr l Γ mX3_guestActs 4 0 0 (ws_A b) [.ref b, .int (nI p), .int (nI 0), .int (nI v)] H none (ws_I Γ b (mo_word W 0 v) sd) := by
  obtain ⟨cu, hcu5, hcu⟩ := ml_c2 hv
  refine mw_ofG (P := pX3_guestActs) (by decide) (ws_As hb) oX3_guestActs (Nat.le_of_ble_eq_true rfl) ?_
  intro pg e0 sg mg below meth cd X hs
  refine mw_pre (I' := ws_I Γ b W sd) (fun H1 h1 => by rw [h1]; exact hH) ?_
  refine mw_steps X 1 (pc' := 1) (lv' := [(0, .ref b), (1, .int (nI p)), (2, .int (nI 0)), (3, .int (nI v))]) (st' := [.int (nI 0)]) rfl ?_
  refine mw_tsIn X 0 rfl (by decide) 40 rfl (by decide) rfl rfl ?_
  refine mw_steps X 1 (pc' := 41) (lv' := [(0, .ref b), (1, .int (nI p)), (2, .int (nI 0)), (3, .int (nI v))]) (st' := [.ref b]) rfl ?_
  refine mw_get X kf_X3_47.fl kc_3 rfl (v := .ref (b + 15)) (fun H h => ⟨_, h.1, rfl⟩) ?_
  refine mw_get X kf_X3_201 kc_0 rfl (v := .ref (b + 16)) (fun H h => ⟨_, h.2.2.2.2.2.2.2.2.1, rfl⟩) ?_
  refine mw_steps X 1 (pc' := 48) (lv' := [(0, .ref b), (1, .int (nI p)), (2, .int (nI 0)), (3, .int (nI v))]) (st' := [.int (nI v), .ref (b + 16)]) rfl ?_
  refine mw_cV1v X kd_X1_add kv_X1_add kl_X3_73 (ci := 1) rfl rfl (Nat.le_of_ble_eq_true rfl) ⟨Nat.le_of_ble_eq_true rfl, Nat.le_of_ble_eq_true rfl⟩ ⟨Nat.le_of_ble_eq_true rfl, Nat.le_of_ble_eq_true rfl⟩ (ws_sub 16 (by omega)) (fun H h => ⟨h.o_words0, y9_add (k := v) hb h hvv⟩) ?_
  refine mw_steps X 3 (pc' := 54) (lv' := [(0, .ref b), (1, .int (nI p)), (2, .int (nI 0)), (3, .int (nI v))]) (st' := [.ref b, .int (nI 0), .ref b]) rfl ?_
  refine mw_get X kf_X3_47.fl kc_3 rfl (v := .ref (b + 15)) (fun H h => ⟨_, h.1, rfl⟩) ?_
  refine mw_get X kf_X3_106 kc_0 rfl (v := .int (nI cu)) (fun H h => ⟨_, h.2.2.2.2.2.2.2.2.1, congrArg (fun z => some (Value.int z)) (by simp (disch := omega) only [pk_un]; exact hcu)⟩) ?_
  refine mw_steps X 2 (pc' := 62) (lv' := [(0, .ref b), (1, .int (nI p)), (2, .int (nI 0)), (3, .int (nI v))]) (st' := [.ref b, .int (nI 5), .int (nI cu), .int (nI 0), .ref b]) rfl ?_
  refine mw_get X kf_X3_47.fl kc_3 rfl (v := .ref (b + 15)) (fun H h => ⟨_, h.1, rfl⟩) ?_
  refine mw_get X kf_X3_201 kc_0 rfl (v := .ref (b + 16)) (fun H h => ⟨_, h.2.2.2.2.2.2.2.2.1, rfl⟩) ?_
  refine mw_cV0r X kd_X1_inRow kv_X1_inRow kl_X3_204 (ci := 1) rfl rfl (Nat.le_of_ble_eq_true rfl) ⟨Nat.le_of_ble_eq_true rfl, Nat.le_of_ble_eq_true rfl⟩ ⟨Nat.le_of_ble_eq_true rfl, Nat.le_of_ble_eq_true rfl⟩ (ws_sub 16 (by omega)) (fun H h => ⟨h.o_words0, y9_inRow hb h⟩) ?_
  refine mw_cV4v X kd_X3_sends kv_X3_sends kl_X3_131 (ci := 3) rfl rfl (Nat.le_of_ble_eq_true rfl) ⟨Nat.le_of_ble_eq_true rfl, Nat.le_of_ble_eq_true rfl⟩ ⟨Nat.le_of_ble_eq_true rfl, Nat.le_of_ble_eq_true rfl⟩ (fun _ h => h) (fun H h => ⟨⟨_, h.1⟩, zw_send0 hb h (iv_has hv (by omega) hvv).1 hcu5 (by omega)⟩) ?_
  refine mw_steps X 1 (pc' := 147) (lv' := [(0, .ref b), (1, .int (nI p)), (2, .int (nI 0)), (3, .int (nI v))]) (st' := []) rfl ?_
  exact mw_vret X rfl rfl (fun H h => ⟨rfl, by rw [show mo_word W 0 v = mo_send (upd W (127 + 100 * 0 + v) (nI 1)) 0 cu 5 (nI (mo_row (upd W (127 + 100 * 0 + v) (nI 1)) 0)) from by rw [ml_wordC (by omega) hvv hcu hcu5]; exact ml_goes_send0]; exact h⟩)
set_option maxHeartbeats 4000000 in
set_option maxRecDepth 20000 in
theorem zw_gact1 {l : Launch} {Γ : mw_C} {b : Nat} (hb : Γ.2.2.2 ≤ b) {W : Nat → Int32} {sd : Int32} {H : Heap} {p c : Nat} {x : Int32} (hH : ws_I Γ b W sd H) (hv : iv c W) (hp : p < 5) : mw_Cr l Γ mX3_guestActs 4 0 0 (ws_A b) [.ref b, .int (nI p), .int (nI 1), .int x] H none (ws_I Γ b (mo_goes W 0 p 2 x) sd) := by
  refine mw_ofG (P := pX3_guestActs) (by decide) (ws_As hb) oX3_guestActs (Nat.le_of_ble_eq_true rfl) ?_
  intro pg e0 sg mg below meth cd X hs
  refine mw_pre (I' := ws_I Γ b W sd) (fun H1 h1 => by rw [h1]; exact hH) ?_
  refine mw_steps X 1 (pc' := 1) (lv' := [(0, .ref b), (1, .int (nI p)), (2, .int (nI 1)), (3, .int x)]) (st' := [.int (nI 1)]) rfl ?_
  refine mw_tsIn X 1 rfl (by decide) 77 rfl (by decide) rfl rfl ?_
  refine mw_steps X 5 (pc' := 82) (lv' := [(0, .ref b), (1, .int (nI p)), (2, .int (nI 1)), (3, .int x)]) (st' := [.int x, .int (nI 2), .int (nI p), .int (nI 0), .ref b]) rfl ?_
  refine mw_cV4v X kd_X3_sends kv_X3_sends kl_X3_131 (ci := 3) rfl rfl (Nat.le_of_ble_eq_true rfl) ⟨Nat.le_of_ble_eq_true rfl, Nat.le_of_ble_eq_true rfl⟩ ⟨Nat.le_of_ble_eq_true rfl, Nat.le_of_ble_eq_true rfl⟩ (fun _ h => h) (fun H h => ⟨⟨_, h.1⟩, zw_send0 hb h hv.1 hp (by omega)⟩) ?_
  refine mw_steps X 1 (pc' := 147) (lv' := [(0, .ref b), (1, .int (nI p)), (2, .int (nI 1)), (3, .int x)]) (st' := []) rfl ?_
  exact mw_vret X rfl rfl (fun H h => ⟨rfl, by rw [show mo_goes W 0 p 2 x = mo_send W 0 p 2 x from by exact ml_goes_send0]; exact h⟩)
set_option maxHeartbeats 4000000 in
set_option maxRecDepth 20000 in
theorem zw_gact2T {l : Launch} {Γ : mw_C} {b : Nat} (hb : Γ.2.2.2 ≤ b) {W : Nat → Int32} {sd : Int32} {H : Heap} {p c : Nat} {x : Int32} (hH : ws_I Γ b W sd H) (hv : iv c W) (hp : p < 5) (hf : mo_fa W 0 1 x < mo_n (W 13)) : mw_Cr l Γ mX3_guestActs 4 0 0 (ws_A b) [.ref b, .int (nI p), .int (nI 2), .int x] H none (ws_I Γ b (mo_sure W x) sd) := by
  obtain ⟨e2, pl, t2, he2, hpl, ht2, a4, hpp, a6⟩ := hv.2.2.2.2.1 _ hf
  refine mw_ofG (P := pX3_guestActs) (by decide) (ws_As hb) oX3_guestActs (Nat.le_of_ble_eq_true rfl) ?_
  intro pg e0 sg mg below meth cd X hs
  refine mw_pre (I' := ws_I Γ b W sd) (fun H1 h1 => by rw [h1]; exact hH) ?_
  refine mw_steps X 1 (pc' := 1) (lv' := [(0, .ref b), (1, .int (nI p)), (2, .int (nI 2)), (3, .int x)]) (st' := [.int (nI 2)]) rfl ?_
  refine mw_tsIn X 2 rfl (by decide) 88 rfl (by decide) rfl rfl ?_
  refine mw_steps X 1 (pc' := 89) (lv' := [(0, .ref b), (1, .int (nI p)), (2, .int (nI 2)), (3, .int x)]) (st' := [.ref b]) rfl ?_
  refine mw_get X kf_X3_26.fl kc_3 rfl (v := .ref (b + 7)) (fun H h => ⟨_, h.1, rfl⟩) ?_
  refine mw_steps X 3 (pc' := 95) (lv' := [(0, .ref b), (1, .int (nI p)), (2, .int (nI 2)), (3, .int x)]) (st' := [.int x, .int (nI 0), .ref b, .ref (b + 7)]) rfl ?_
  refine mw_cV2r X kd_X3_answered kv_X3_answered kl_X3_207 (ci := 3) rfl rfl (Nat.le_of_ble_eq_true rfl) ⟨Nat.le_of_ble_eq_true rfl, Nat.le_of_ble_eq_true rfl⟩ ⟨Nat.le_of_ble_eq_true rfl, Nat.le_of_ble_eq_true rfl⟩ (fun _ h => h) (fun H h => ⟨⟨_, h.1⟩, zw_ans0T hb h hv.1 hf⟩) ?_
  refine mw_top (y := nI pl) hpp ?_
  refine mw_steps X 2 (pc' := 100) (lv' := [(0, .ref b), (1, .int (nI p)), (2, .int (nI 2)), (3, .int x)]) (st' := [.int (nI 1), .int (nI 1), .int (nI pl), .ref (b + 7)]) rfl ?_
  refine mw_cV3v X kd_X2_put kv_X2_put kl_X3_69 (ci := 2) rfl rfl (Nat.le_of_ble_eq_true rfl) ⟨Nat.le_of_ble_eq_true rfl, Nat.le_of_ble_eq_true rfl⟩ ⟨Nat.le_of_ble_eq_true rfl, Nat.le_of_ble_eq_true rfl⟩ (ws_sub 7 (by omega)) (fun H h => ⟨h.o_places, y4_put1 hb h hpl⟩) ?_
  refine mw_steps X 1 (pc' := 147) (lv' := [(0, .ref b), (1, .int (nI p)), (2, .int (nI 2)), (3, .int x)]) (st' := []) rfl ?_
  exact mw_vret X rfl rfl (fun H h => ⟨rfl, by rw [show mo_sure W x = upd (mo_rm W 507 5 13 (mo_fa W 0 1 x)) (27 + pl) (nI 1) from by exact ml_sureC rfl hf hpp hpl]; exact h⟩)
set_option maxHeartbeats 4000000 in
set_option maxRecDepth 20000 in
theorem zw_gact2F {l : Launch} {Γ : mw_C} {b : Nat} (hb : Γ.2.2.2 ≤ b) {W : Nat → Int32} {sd : Int32} {H : Heap} {p c : Nat} {x : Int32} (hH : ws_I Γ b W sd H) (hv : iv c W) (hp : p < 5) (hf : ¬ mo_fa W 0 1 x < mo_n (W 13)) : mw_Cr l Γ mX3_guestActs 4 0 0 (ws_A b) [.ref b, .int (nI p), .int (nI 2), .int x] H none (ws_I Γ b (mo_sure W x) sd) := by
  refine mw_ofG (P := pX3_guestActs) (by decide) (ws_As hb) oX3_guestActs (Nat.le_of_ble_eq_true rfl) ?_
  intro pg e0 sg mg below meth cd X hs
  refine mw_pre (I' := ws_I Γ b W sd) (fun H1 h1 => by rw [h1]; exact hH) ?_
  refine mw_steps X 1 (pc' := 1) (lv' := [(0, .ref b), (1, .int (nI p)), (2, .int (nI 2)), (3, .int x)]) (st' := [.int (nI 2)]) rfl ?_
  refine mw_tsIn X 2 rfl (by decide) 88 rfl (by decide) rfl rfl ?_
  refine mw_steps X 1 (pc' := 89) (lv' := [(0, .ref b), (1, .int (nI p)), (2, .int (nI 2)), (3, .int x)]) (st' := [.ref b]) rfl ?_
  refine mw_get X kf_X3_26.fl kc_3 rfl (v := .ref (b + 7)) (fun H h => ⟨_, h.1, rfl⟩) ?_
  refine mw_steps X 3 (pc' := 95) (lv' := [(0, .ref b), (1, .int (nI p)), (2, .int (nI 2)), (3, .int x)]) (st' := [.int x, .int (nI 0), .ref b, .ref (b + 7)]) rfl ?_
  refine mw_cV2r X kd_X3_answered kv_X3_answered kl_X3_207 (ci := 3) rfl rfl (Nat.le_of_ble_eq_true rfl) ⟨Nat.le_of_ble_eq_true rfl, Nat.le_of_ble_eq_true rfl⟩ ⟨Nat.le_of_ble_eq_true rfl, Nat.le_of_ble_eq_true rfl⟩ (fun _ h => h) (fun H h => ⟨⟨_, h.1⟩, zw_ans0F hb h hv.1 hf⟩) ?_
  refine mw_steps X 2 (pc' := 100) (lv' := [(0, .ref b), (1, .int (nI p)), (2, .int (nI 2)), (3, .int x)]) (st' := [.int (nI 1), .int (nI 1), .int (-1), .ref (b + 7)]) rfl ?_
  refine mw_cV3v X kd_X2_put kv_X2_put kl_X3_69 (ci := 2) rfl rfl (Nat.le_of_ble_eq_true rfl) ⟨Nat.le_of_ble_eq_true rfl, Nat.le_of_ble_eq_true rfl⟩ ⟨Nat.le_of_ble_eq_true rfl, Nat.le_of_ble_eq_true rfl⟩ (ws_sub 7 (by omega)) (fun H h => ⟨h.o_places, y4_putN hb h⟩) ?_
  refine mw_steps X 1 (pc' := 147) (lv' := [(0, .ref b), (1, .int (nI p)), (2, .int (nI 2)), (3, .int x)]) (st' := []) rfl ?_
  exact mw_vret X rfl rfl (fun H h => ⟨rfl, by rw [show mo_sure W x = W from by exact ml_sure_f hf]; exact h⟩)
set_option maxHeartbeats 4000000 in
set_option maxRecDepth 20000 in
theorem zw_gact3 {l : Launch} {Γ : mw_C} {b : Nat} (hb : Γ.2.2.2 ≤ b) {W : Nat → Int32} {sd : Int32} {H : Heap} {p c v : Nat} (hH : ws_I Γ b W sd H) (hv : iv c W) (hp : p < 5) (hvv : v < 40) : mw_Cr l Γ mX3_guestActs 4 0 0 (ws_A b) [.ref b, .int (nI p), .int (nI 3), .int (nI v)] H none (ws_I Γ b (upd W (87 + v) (if W (87 + v) = 0 then nI 1 else W (87 + v))) sd) := by
  refine mw_ofG (P := pX3_guestActs) (by decide) (ws_As hb) oX3_guestActs (Nat.le_of_ble_eq_true rfl) ?_
  intro pg e0 sg mg below meth cd X hs
  refine mw_pre (I' := ws_I Γ b W sd) (fun H1 h1 => by rw [h1]; exact hH) ?_
  refine mw_steps X 1 (pc' := 1) (lv' := [(0, .ref b), (1, .int (nI p)), (2, .int (nI 3)), (3, .int (nI v))]) (st' := [.int (nI 3)]) rfl ?_
  refine mw_tsIn X 3 rfl (by decide) 106 rfl (by decide) rfl rfl ?_
  refine mw_steps X 1 (pc' := 107) (lv' := [(0, .ref b), (1, .int (nI p)), (2, .int (nI 3)), (3, .int (nI v))]) (st' := [.ref b]) rfl ?_
  refine mw_get X kf_X3_41.fl kc_3 rfl (v := .ref (b + 13)) (fun H h => ⟨_, h.1, rfl⟩) ?_
  refine mw_steps X 1 (pc' := 111) (lv' := [(0, .ref b), (1, .int (nI p)), (2, .int (nI 3)), (3, .int (nI v))]) (st' := [.int (nI v), .ref (b + 13)]) rfl ?_
  refine mw_cV1r X kd_X1_has kv_X1_has kl_X3_173 (ci := 1) rfl rfl (Nat.le_of_ble_eq_true rfl) ⟨Nat.le_of_ble_eq_true rfl, Nat.le_of_ble_eq_true rfl⟩ ⟨Nat.le_of_ble_eq_true rfl, Nat.le_of_ble_eq_true rfl⟩ (ws_sub 13 (by omega)) (fun H h => ⟨h.o_everSpare, y7_has hb h⟩) ?_
  refine mw_top (y := mo_b (!decide (W (87 + v) = 0))) (by rw [mo_bl_n hvv (by omega), ml_n (by omega), Bool.true_and]) ?_
  refine mw_if_ne X 147 rfl rfl (fun c114 => ?_) (fun c114 => ?_)
  · have hz : ¬ W (87 + v) = 0 := by have := mo_b_nz c114; simpa using this
    exact mw_vret X rfl rfl (fun H h => ⟨rfl, by rw [show upd W (87 + v) (if W (87 + v) = 0 then nI 1 else W (87 + v)) = W from by first | rw [if_pos hz, ml_uu] | rw [if_neg hz, ml_same rfl]]; exact h⟩)
  · have hz : W (87 + v) = 0 := by have := mo_b_z c114; simpa using this
    refine mw_steps X 1 (pc' := 118) (lv' := [(0, .ref b), (1, .int (nI p)), (2, .int (nI 3)), (3, .int (nI v))]) (st' := [.ref b]) rfl ?_
    refine mw_get X kf_X3_41.fl kc_3 rfl (v := .ref (b + 13)) (fun H h => ⟨_, h.1, rfl⟩) ?_
    refine mw_steps X 1 (pc' := 122) (lv' := [(0, .ref b), (1, .int (nI p)), (2, .int (nI 3)), (3, .int (nI v))]) (st' := [.int (nI v), .ref (b + 13)]) rfl ?_
    refine mw_cV1v X kd_X1_add kv_X1_add kl_X3_73 (ci := 1) rfl rfl (Nat.le_of_ble_eq_true rfl) ⟨Nat.le_of_ble_eq_true rfl, Nat.le_of_ble_eq_true rfl⟩ ⟨Nat.le_of_ble_eq_true rfl, Nat.le_of_ble_eq_true rfl⟩ (ws_sub 13 (by omega)) (fun H h => ⟨h.o_everSpare, y7_add (k := v) hb h hvv hz⟩) ?_
    refine mw_steps X 1 (pc' := 126) (lv' := [(0, .ref b), (1, .int (nI p)), (2, .int (nI 3)), (3, .int (nI v))]) (st' := [.ref b]) rfl ?_
    refine mw_get X kf_X3_38.fl kc_3 rfl (v := .ref (b + 11)) (fun H h => ⟨_, h.1, rfl⟩) ?_
    refine mw_steps X 1 (pc' := 130) (lv' := [(0, .ref b), (1, .int (nI p)), (2, .int (nI 3)), (3, .int (nI v))]) (st' := [.int (nI v), .ref (b + 11)]) rfl ?_
    refine mw_cV1v X kd_X1_add kv_X1_add kl_X3_73 (ci := 1) rfl rfl (Nat.le_of_ble_eq_true rfl) ⟨Nat.le_of_ble_eq_true rfl, Nat.le_of_ble_eq_true rfl⟩ ⟨Nat.le_of_ble_eq_true rfl, Nat.le_of_ble_eq_true rfl⟩ (ws_sub 11 (by omega)) (fun H h => ⟨h.o_spare, y6_add (k := v) hb h hvv (by rw [pk_us]; decide)⟩) ?_
    refine mw_steps X 1 (pc' := 147) (lv' := [(0, .ref b), (1, .int (nI p)), (2, .int (nI 3)), (3, .int (nI v))]) (st' := []) rfl ?_
    exact mw_vret X rfl rfl (fun H h => ⟨rfl, by rw [show upd W (87 + v) (if W (87 + v) = 0 then nI 1 else W (87 + v)) = upd (upd W (87 + v) (nI 2)) (87 + v) (nI 1) from by first | rw [if_pos hz, ml_uu] | rw [if_neg hz, ml_same rfl]]; exact h⟩)
set_option maxHeartbeats 4000000 in
set_option maxRecDepth 20000 in
theorem zw_gact4 {l : Launch} {Γ : mw_C} {b : Nat} (hb : Γ.2.2.2 ≤ b) {W : Nat → Int32} {sd : Int32} {H : Heap} {p c : Nat} {x : Int32} (hH : ws_I Γ b W sd H) (hv : iv c W) (hp : p < 5) : mw_Cr l Γ mX3_guestActs 4 0 0 (ws_A b) [.ref b, .int (nI p), .int (nI 4), .int x] H none (ws_I Γ b (W) sd) := by
  refine mw_ofG (P := pX3_guestActs) (by decide) (ws_As hb) oX3_guestActs (Nat.le_of_ble_eq_true rfl) ?_
  intro pg e0 sg mg below meth cd X hs
  refine mw_pre (I' := ws_I Γ b W sd) (fun H1 h1 => by rw [h1]; exact hH) ?_
  refine mw_steps X 1 (pc' := 1) (lv' := [(0, .ref b), (1, .int (nI p)), (2, .int (nI 4)), (3, .int x)]) (st' := [.int (nI 4)]) rfl ?_
  refine mw_tsIn X 4 rfl (by decide) 147 rfl (by decide) rfl rfl ?_
  exact mw_vret X rfl rfl (fun H h => ⟨rfl, by rw [show W = W from by rfl]; exact h⟩)
set_option maxHeartbeats 4000000 in
set_option maxRecDepth 20000 in
theorem zw_gact5 {l : Launch} {Γ : mw_C} {b : Nat} (hb : Γ.2.2.2 ≤ b) {W : Nat → Int32} {sd : Int32} {H : Heap} {p c : Nat} {x : Int32} (hH : ws_I Γ b W sd H) (hv : iv c W) (hp : p < 5) : mw_Cr l Γ mX3_guestActs 4 0 0 (ws_A b) [.ref b, .int (nI p), .int (nI 5), .int x] H none (ws_I Γ b (mo_confirm W 0 x) sd) := by
  refine mw_ofG (P := pX3_guestActs) (by decide) (ws_As hb) oX3_guestActs (Nat.le_of_ble_eq_true rfl) ?_
  intro pg e0 sg mg below meth cd X hs
  refine mw_pre (I' := ws_I Γ b W sd) (fun H1 h1 => by rw [h1]; exact hH) ?_
  refine mw_steps X 1 (pc' := 1) (lv' := [(0, .ref b), (1, .int (nI p)), (2, .int (nI 5)), (3, .int x)]) (st' := [.int (nI 5)]) rfl ?_
  refine mw_tsIn X 5 rfl (by decide) 136 rfl (by decide) rfl rfl ?_
  refine mw_steps X 1 (pc' := 137) (lv' := [(0, .ref b), (1, .int (nI p)), (2, .int (nI 5)), (3, .int x)]) (st' := [.ref b]) rfl ?_
  refine mw_get X kf_X3_47.fl kc_3 rfl (v := .ref (b + 15)) (fun H h => ⟨_, h.1, rfl⟩) ?_
  refine mw_steps X 1 (pc' := 141) (lv' := [(0, .ref b), (1, .int (nI p)), (2, .int (nI 5)), (3, .int x)]) (st' := [.int x, .ref (b + 15)]) rfl ?_
  refine mw_cV1v X kd_X0_confirm kv_X0_confirm kl_X3_213 (ci := 0) rfl rfl (Nat.le_of_ble_eq_true rfl) ⟨Nat.le_of_ble_eq_true rfl, Nat.le_of_ble_eq_true rfl⟩ ⟨Nat.le_of_ble_eq_true rfl, Nat.le_of_ble_eq_true rfl⟩ (fun _ h => h) (fun H h => ⟨h.o_guest, ze_confirm0 hb h⟩) ?_
  refine mw_steps X 1 (pc' := 147) (lv' := [(0, .ref b), (1, .int (nI p)), (2, .int (nI 5)), (3, .int x)]) (st' := []) rfl ?_
  exact mw_vret X rfl rfl (fun H h => ⟨rfl, by rw [show mo_confirm W 0 x = mo_confirm W 0 x from by rfl]; exact h⟩)
theorem zw_gact {l : Launch} {Γ : mw_C} {b : Nat} (hb : Γ.2.2.2 ≤ b) {W : Nat → Int32} {sd : Int32} {H : Heap} {p k c : Nat} {x : Int32} (hH : ws_I Γ b W sd H) (hv : iv c W) (hp : p < 5) (hk : k < 6) (hx : iv_v 1 k x) : mw_Cr l Γ mX3_guestActs 4 0 0 (ws_A b) [.ref b, .int (nI p), .int (nI k), .int x] H none (ws_I Γ b (mo_guestBy W p k x) sd) := by
  rcases (show k = 0 ∨ k = 1 ∨ k = 2 ∨ k = 3 ∨ k = 4 ∨ k = 5 by omega) with rfl | rfl | rfl | rfl | rfl | rfl
  · obtain ⟨v, hv2, rfl⟩ := hx.1 rfl
    rw [ml_gb0, ml_n (by omega)]
    exact zw_gact0 hb hH hv hp hv2
  · rw [ml_gb1]
    exact zw_gact1 hb hH hv hp
  · rw [ml_gb2]
    by_cases hf : mo_fa W 0 1 x < mo_n (W 13)
    · exact zw_gact2T hb hH hv hp hf
    · exact zw_gact2F hb hH hv hp hf
  · obtain ⟨v, hv2, rfl⟩ := hx.2.1 rfl rfl
    rw [ml_gb3, ml_n (by omega)]
    exact zw_gact3 hb hH hv hp hv2
  · rw [ml_gb4]
    exact zw_gact4 hb hH hv hp
  · rw [ml_gb5]
    exact zw_gact5 hb hH hv hp
set_option maxHeartbeats 4000000 in
set_option maxRecDepth 20000 in
theorem zw_guest {l : Launch} {Γ : mw_C} {b : Nat} (hb : Γ.2.2.2 ≤ b) {W : Nat → Int32} {sd : Int32} {H : Heap} {p y k c : Nat} {x : Int32} (hH : ws_I Γ b W sd H) (hv : iv c W) (hp : p < 5) (hy : y < 32768) (hk : k < 6) (hvx : iv_v 1 k x) : mw_Cr l Γ mX3_guestTakes 5 0 0 (ws_A b) [.ref b, .int (nI p), .int (nI y), .int (nI k), .int x] H (some (.int (nI (mo_guestWhy W p y)))) (ws_I Γ b (mo_guest W p y k x) sd) := by
  have hop := ml_opn hv hp
  refine mw_ofG (P := pX3_guestTakes) (by decide) (ws_As hb) oX3_guestTakes (Nat.le_of_ble_eq_true rfl) ?_
  intro pg e0 sg mg below meth cd X hs
  refine mw_pre (I' := ws_I Γ b W sd) (fun H1 h1 => by rw [h1]; exact hH) ?_
  refine mw_steps X 2 (pc' := 2) (lv' := [(0, .ref b), (1, .int (nI p)), (2, .int (nI y)), (3, .int (nI k)), (4, .int x)]) (st' := [.int (nI p), .ref b]) rfl ?_
  refine mw_cV1r X kd_X3_isOpen kv_X3_isOpen kl_X3_113 (ci := 3) rfl rfl (Nat.le_of_ble_eq_true rfl) ⟨Nat.le_of_ble_eq_true rfl, Nat.le_of_ble_eq_true rfl⟩ ⟨Nat.le_of_ble_eq_true rfl, Nat.le_of_ble_eq_true rfl⟩ (fun _ h => h) (fun H h => ⟨⟨_, h.1⟩, zw_isOpen hb h hp⟩) ?_
  refine mw_if_ne X 10 rfl rfl (fun c5 => ?_) (fun c5 => ?_)
  · have ho : ¬ W (22 + p) < 0 := by have := mo_b_nz c5; rw [hop] at this; exact Int32.not_lt.mpr (of_decide_eq_true this)
    refine mw_steps X 1 (pc' := 11) (lv' := [(0, .ref b), (1, .int (nI p)), (2, .int (nI y)), (3, .int (nI k)), (4, .int x)]) (st' := [.ref b]) rfl ?_
    refine mw_get X kf_X3_47.fl kc_3 rfl (v := .ref (b + 15)) (fun H h => ⟨_, h.1, rfl⟩) ?_
    refine mw_get X kf_X3_176 kc_0 rfl (v := .ref (b + 18)) (fun H h => ⟨_, h.2.2.2.2.2.2.2.2.1, rfl⟩) ?_
    refine mw_steps X 1 (pc' := 18) (lv' := [(0, .ref b), (1, .int (nI p)), (2, .int (nI y)), (3, .int (nI k)), (4, .int x)]) (st' := [.int (nI y), .ref (b + 18)]) rfl ?_
    refine mw_cV1r X kd_X1_has kv_X1_has kl_X3_173 (ci := 1) rfl rfl (Nat.le_of_ble_eq_true rfl) ⟨Nat.le_of_ble_eq_true rfl, Nat.le_of_ble_eq_true rfl⟩ ⟨Nat.le_of_ble_eq_true rfl, Nat.le_of_ble_eq_true rfl⟩ (ws_sub 18 (by omega)) (fun H h => ⟨h.o_taken0, y10_has hb h⟩) ?_
    refine mw_top (y := mo_b (mo_bit W 0 y)) (by rw [mo_bl_n hy (by omega), ml_n (by omega), Bool.true_and]) ?_
    refine mw_if_eq X 26 rfl rfl (fun c21 => ?_) (fun c21 => ?_)
    · refine mw_steps X 1 (pc' := 27) (lv' := [(0, .ref b), (1, .int (nI p)), (2, .int (nI y)), (3, .int (nI k)), (4, .int x)]) (st' := [.ref b]) rfl ?_
      refine mw_get X kf_X3_47.fl kc_3 rfl (v := .ref (b + 15)) (fun H h => ⟨_, h.1, rfl⟩) ?_
      refine mw_get X kf_X3_176 kc_0 rfl (v := .ref (b + 18)) (fun H h => ⟨_, h.2.2.2.2.2.2.2.2.1, rfl⟩) ?_
      refine mw_steps X 1 (pc' := 34) (lv' := [(0, .ref b), (1, .int (nI p)), (2, .int (nI y)), (3, .int (nI k)), (4, .int x)]) (st' := [.int (nI y), .ref (b + 18)]) rfl ?_
      refine mw_cV1v X kd_X1_add kv_X1_add kl_X3_73 (ci := 1) rfl rfl (Nat.le_of_ble_eq_true rfl) ⟨Nat.le_of_ble_eq_true rfl, Nat.le_of_ble_eq_true rfl⟩ ⟨Nat.le_of_ble_eq_true rfl, Nat.le_of_ble_eq_true rfl⟩ (ws_sub 18 (by omega)) (fun H h => ⟨h.o_taken0, y10_add (k := y) hb h hy⟩) ?_
      refine mw_steps X 4 (pc' := 42) (lv' := [(0, .ref b), (1, .int (nI p)), (2, .int (nI y)), (3, .int (nI k)), (4, .int x)]) (st' := [.int x, .int (nI k), .int (nI p), .ref b]) rfl ?_
      refine mw_cV3v X kd_X3_guestActs kv_X3_guestActs kl_X3_219 (ci := 3) rfl rfl (Nat.le_of_ble_eq_true rfl) ⟨Nat.le_of_ble_eq_true rfl, Nat.le_of_ble_eq_true rfl⟩ ⟨Nat.le_of_ble_eq_true rfl, Nat.le_of_ble_eq_true rfl⟩ (fun _ h => h) (fun H h => ⟨⟨_, h.1⟩, zw_gact hb h (iv_note hv (by omega)) hp hk hvx⟩) ?_
      refine mw_steps X 1 (pc' := 46) (lv' := [(0, .ref b), (1, .int (nI p)), (2, .int (nI y)), (3, .int (nI k)), (4, .int x)]) (st' := [.int (nI 0)]) rfl ?_
      have hq : mo_guestWhy W p y = 0 ∧ mo_guest W p y k x = mo_guestBy (mo_note W 0 y) p k x := ml_guest_0 ho (mo_b_z c21)
      exact mw_iret X rfl rfl (fun H h => ⟨by rw [hq.1], by rw [hq.2]; exact h⟩)
    · refine mw_steps X 1 (pc' := 25) (lv' := [(0, .ref b), (1, .int (nI p)), (2, .int (nI y)), (3, .int (nI k)), (4, .int x)]) (st' := [.int (nI 3)]) rfl ?_
      have hq : mo_guestWhy W p y = 3 ∧ mo_guest W p y k x = W := ml_guest_3 ho (mo_b_nz c21)
      exact mw_iret X rfl rfl (fun H h => ⟨by rw [hq.1], by rw [hq.2]; exact h⟩)
  · have ho : W (22 + p) < 0 := by have := mo_b_z c5; rw [hop] at this; exact Int32.not_le.mp (of_decide_eq_false this)
    refine mw_steps X 1 (pc' := 9) (lv' := [(0, .ref b), (1, .int (nI p)), (2, .int (nI y)), (3, .int (nI k)), (4, .int x)]) (st' := [.int (nI 2)]) rfl ?_
    have hq : mo_guestWhy W p y = 2 ∧ mo_guest W p y k x = W := ml_guest_2 ho
    exact mw_iret X rfl rfl (fun H h => ⟨by rw [hq.1], by rw [hq.2]; exact h⟩)
set_option maxHeartbeats 4000000 in
set_option maxRecDepth 20000 in
theorem zw_open {l : Launch} {Γ : mw_C} {b : Nat} (hb : Γ.2.2.2 ≤ b) {W : Nat → Int32} {sd : Int32} {H : Heap} {p c : Nat} (hH : ws_I Γ b W sd H) (hv : iv c W) (hp : p < 5) (hl : mo_least W < 40) : mw_Cr l Γ mX3_opens 3 0 0 (ws_A b) [.ref b, .int (nI p)] H (some (.int (nI (mo_least W)))) (ws_I Γ b (mo_challenge (upd (upd (upd W (87 + mo_least W) (nI 2)) (22 + p) (nI (mo_least W))) (27 + p) (nI 0)) 0 p) sd) := by
  have hl1 : W (87 + mo_least W) = nI 1 := of_decide_eq_true (ml_fst_yes _ _ hl)
  obtain ⟨q, hq⟩ : ∃ q, q = mo_least W := ⟨_, rfl⟩
  rw [← hq] at hl hl1 ⊢
  have hiU : iv c (upd (upd (upd W (87 + q) (nI 2)) (22 + p) (nI q)) (27 + p) (nI 0)) := iv_sureU (iv_open (iv_spare hv hl (Or.inr (Or.inr rfl))) hp (Or.inr ⟨q, hl, rfl⟩)) hp (Or.inl rfl)
  refine mw_ofG (P := pX3_opens) (by decide) (ws_As hb) oX3_opens (Nat.le_of_ble_eq_true rfl) ?_
  intro pg e0 sg mg below meth cd X hs
  refine mw_pre (I' := ws_I Γ b W sd) (fun H1 h1 => by rw [h1]; exact hH) ?_
  refine mw_steps X 1 (pc' := 1) (lv' := [(0, .ref b), (1, .int (nI p))]) (st' := [.ref b]) rfl ?_
  refine mw_get X kf_X3_38.fl kc_3 rfl (v := .ref (b + 11)) (fun H h => ⟨_, h.1, rfl⟩) ?_
  refine mw_cV0r X kd_X1_least kv_X1_least kl_X3_222 (ci := 1) rfl rfl (Nat.le_of_ble_eq_true rfl) ⟨Nat.le_of_ble_eq_true rfl, Nat.le_of_ble_eq_true rfl⟩ ⟨Nat.le_of_ble_eq_true rfl, Nat.le_of_ble_eq_true rfl⟩ (ws_sub 11 (by omega)) (fun H h => ⟨h.o_spare, y6_least hb h⟩) ?_
  refine mw_top (y := nI q) (by rw [← hq]; exact if_pos hl) ?_
  refine mw_steps X 2 (pc' := 9) (lv' := [(2, .int (nI q)), (0, .ref b), (1, .int (nI p))]) (st' := [.ref b]) rfl ?_
  refine mw_get X kf_X3_38.fl kc_3 rfl (v := .ref (b + 11)) (fun H h => ⟨_, h.1, rfl⟩) ?_
  refine mw_steps X 1 (pc' := 13) (lv' := [(2, .int (nI q)), (0, .ref b), (1, .int (nI p))]) (st' := [.int (nI q), .ref (b + 11)]) rfl ?_
  refine mw_cV1v X kd_X1_remove kv_X1_remove kl_X3_216 (ci := 1) rfl rfl (Nat.le_of_ble_eq_true rfl) ⟨Nat.le_of_ble_eq_true rfl, Nat.le_of_ble_eq_true rfl⟩ ⟨Nat.le_of_ble_eq_true rfl, Nat.le_of_ble_eq_true rfl⟩ (ws_sub 11 (by omega)) (fun H h => ⟨h.o_spare, y6_rem (k := q) hb h hl (by rw [hl1]; decide)⟩) ?_
  refine mw_steps X 1 (pc' := 17) (lv' := [(2, .int (nI q)), (0, .ref b), (1, .int (nI p))]) (st' := [.ref b]) rfl ?_
  refine mw_get X kf_X3_26.fl kc_3 rfl (v := .ref (b + 7)) (fun H h => ⟨_, h.1, rfl⟩) ?_
  refine mw_steps X 3 (pc' := 23) (lv' := [(2, .int (nI q)), (0, .ref b), (1, .int (nI p))]) (st' := [.int (nI q), .int (nI 0), .int (nI p), .ref (b + 7)]) rfl ?_
  refine mw_cV3v X kd_X2_put kv_X2_put kl_X3_69 (ci := 2) rfl rfl (Nat.le_of_ble_eq_true rfl) ⟨Nat.le_of_ble_eq_true rfl, Nat.le_of_ble_eq_true rfl⟩ ⟨Nat.le_of_ble_eq_true rfl, Nat.le_of_ble_eq_true rfl⟩ (ws_sub 7 (by omega)) (fun H h => ⟨h.o_places, y4_put0 hb h hp⟩) ?_
  refine mw_steps X 1 (pc' := 27) (lv' := [(2, .int (nI q)), (0, .ref b), (1, .int (nI p))]) (st' := [.ref b]) rfl ?_
  refine mw_get X kf_X3_26.fl kc_3 rfl (v := .ref (b + 7)) (fun H h => ⟨_, h.1, rfl⟩) ?_
  refine mw_steps X 3 (pc' := 33) (lv' := [(2, .int (nI q)), (0, .ref b), (1, .int (nI p))]) (st' := [.int (nI 0), .int (nI 1), .int (nI p), .ref (b + 7)]) rfl ?_
  refine mw_cV3v X kd_X2_put kv_X2_put kl_X3_69 (ci := 2) rfl rfl (Nat.le_of_ble_eq_true rfl) ⟨Nat.le_of_ble_eq_true rfl, Nat.le_of_ble_eq_true rfl⟩ ⟨Nat.le_of_ble_eq_true rfl, Nat.le_of_ble_eq_true rfl⟩ (ws_sub 7 (by omega)) (fun H h => ⟨h.o_places, y4_put1 hb h hp⟩) ?_
  refine mw_steps X 7 (pc' := 43) (lv' := [(2, .int (nI q)), (0, .ref b), (1, .int (nI p))]) (st' := [.int (nI p), .int (nI 0), .ref b, .int (nI 1), .int (nI p), .int (nI 0), .ref b]) rfl ?_
  refine mw_cV2r X kd_X3_challenges kv_X3_challenges kl_X3_195 (ci := 3) rfl rfl (Nat.le_of_ble_eq_true rfl) ⟨Nat.le_of_ble_eq_true rfl, Nat.le_of_ble_eq_true rfl⟩ ⟨Nat.le_of_ble_eq_true rfl, Nat.le_of_ble_eq_true rfl⟩ (fun _ h => h) (fun H h => ⟨⟨_, h.1⟩, zw_ask0 hb h hiU.1 (p := p)⟩) ?_
  refine mw_cV4v X kd_X3_sends kv_X3_sends kl_X3_131 (ci := 3) rfl rfl (Nat.le_of_ble_eq_true rfl) ⟨Nat.le_of_ble_eq_true rfl, Nat.le_of_ble_eq_true rfl⟩ ⟨Nat.le_of_ble_eq_true rfl, Nat.le_of_ble_eq_true rfl⟩ (fun _ h => h) (fun H h => ⟨⟨_, h.1⟩, zw_send0 hb h (iv_ask hiU (by omega) hp).1 hp (by omega)⟩) ?_
  refine mw_steps X 1 (pc' := 50) (lv' := [(2, .int (nI q)), (0, .ref b), (1, .int (nI p))]) (st' := [.int (nI q)]) rfl ?_
  exact mw_iret X rfl rfl (fun H h => ⟨rfl, by rw [show mo_challenge (upd (upd (upd W (87 + q) (nI 2)) (22 + p) (nI q)) (27 + p) (nI 0)) 0 p = mo_send (mo_ask (upd (upd (upd W (87 + q) (nI 2)) (22 + p) (nI q)) (27 + p) (nI 0)) 0 p) 0 p 1 ((upd (upd (upd W (87 + q) (nI 2)) (22 + p) (nI q)) (27 + p) (nI 0)) 16) from ml_goes_send0]; exact h⟩)
set_option maxHeartbeats 4000000 in
set_option maxRecDepth 20000 in
theorem zw_close {l : Launch} {Γ : mw_C} {b : Nat} (hb : Γ.2.2.2 ≤ b) {W : Nat → Int32} {sd : Int32} {H : Heap} {p c : Nat} (hH : ws_I Γ b W sd H) (hv : iv c W) (hp : p < 5) : mw_Cr l Γ mX3_closes 3 0 0 (ws_A b) [.ref b, .int (nI p)] H (some (.int (W (22 + p)))) (ws_I Γ b (mo_close W p) sd) := by
  obtain ⟨cu, hcu5, hcu⟩ := ml_c2 hv
  have hiU : iv c (upd W (22 + p) (-1)) := iv_open hv hp (Or.inl rfl)
  refine mw_ofG (P := pX3_closes) (by decide) (ws_As hb) oX3_closes (Nat.le_of_ble_eq_true rfl) ?_
  intro pg e0 sg mg below meth cd X hs
  refine mw_pre (I' := ws_I Γ b W sd) (fun H1 h1 => by rw [h1]; exact hH) ?_
  refine mw_steps X 1 (pc' := 1) (lv' := [(0, .ref b), (1, .int (nI p))]) (st' := [.ref b]) rfl ?_
  refine mw_get X kf_X3_26.fl kc_3 rfl (v := .ref (b + 7)) (fun H h => ⟨_, h.1, rfl⟩) ?_
  refine mw_steps X 2 (pc' := 6) (lv' := [(0, .ref b), (1, .int (nI p))]) (st' := [.int (nI 0), .int (nI p), .ref (b + 7)]) rfl ?_
  refine mw_cV2r X kd_X2_at kv_X2_at kl_X3_98 (ci := 2) rfl rfl (Nat.le_of_ble_eq_true rfl) ⟨Nat.le_of_ble_eq_true rfl, Nat.le_of_ble_eq_true rfl⟩ ⟨Nat.le_of_ble_eq_true rfl, Nat.le_of_ble_eq_true rfl⟩ (ws_sub 7 (by omega)) (fun H h => ⟨h.o_places, y4_at0 hb h hp⟩) ?_
  refine mw_steps X 2 (pc' := 11) (lv' := [(2, .int (W (22 + p))), (0, .ref b), (1, .int (nI p))]) (st' := [.ref b]) rfl ?_
  refine mw_get X kf_X3_26.fl kc_3 rfl (v := .ref (b + 7)) (fun H h => ⟨_, h.1, rfl⟩) ?_
  refine mw_steps X 3 (pc' := 17) (lv' := [(2, .int (W (22 + p))), (0, .ref b), (1, .int (nI p))]) (st' := [.int (-1), .int (nI 0), .int (nI p), .ref (b + 7)]) rfl ?_
  refine mw_cV3v X kd_X2_put kv_X2_put kl_X3_69 (ci := 2) rfl rfl (Nat.le_of_ble_eq_true rfl) ⟨Nat.le_of_ble_eq_true rfl, Nat.le_of_ble_eq_true rfl⟩ ⟨Nat.le_of_ble_eq_true rfl, Nat.le_of_ble_eq_true rfl⟩ (ws_sub 7 (by omega)) (fun H h => ⟨h.o_places, y4_put0 hb h hp⟩) ?_
  refine mw_steps X 3 (pc' := 23) (lv' := [(2, .int (W (22 + p))), (0, .ref b), (1, .int (nI p))]) (st' := [.ref b, .int (nI 0), .ref b]) rfl ?_
  refine mw_get X kf_X3_47.fl kc_3 rfl (v := .ref (b + 15)) (fun H h => ⟨_, h.1, rfl⟩) ?_
  refine mw_get X kf_X3_106 kc_0 rfl (v := .int (nI cu)) (fun H h => ⟨_, h.2.2.2.2.2.2.2.2.1, congrArg (fun z => some (Value.int z)) (by simp (disch := omega) only [pk_un]; exact hcu)⟩) ?_
  refine mw_steps X 2 (pc' := 31) (lv' := [(2, .int (W (22 + p))), (0, .ref b), (1, .int (nI p))]) (st' := [.int (W (22 + p)), .int (nI 4), .int (nI cu), .int (nI 0), .ref b]) rfl ?_
  refine mw_cV4v X kd_X3_sends kv_X3_sends kl_X3_131 (ci := 3) rfl rfl (Nat.le_of_ble_eq_true rfl) ⟨Nat.le_of_ble_eq_true rfl, Nat.le_of_ble_eq_true rfl⟩ ⟨Nat.le_of_ble_eq_true rfl, Nat.le_of_ble_eq_true rfl⟩ (fun _ h => h) (fun H h => ⟨⟨_, h.1⟩, zw_send0 hb h hiU.1 hcu5 (by omega)⟩) ?_
  refine mw_steps X 1 (pc' := 35) (lv' := [(2, .int (W (22 + p))), (0, .ref b), (1, .int (nI p))]) (st' := [.int (W (22 + p))]) rfl ?_
  exact mw_iret X rfl rfl (fun H h => ⟨rfl, by rw [show mo_close W p = mo_send (upd W (22 + p) (-1)) 0 cu 4 (W (22 + p)) from by unfold mo_close; rw [hcu, ml_n (by omega)]]; exact h⟩)
set_option maxHeartbeats 4000000 in
set_option maxRecDepth 20000 in
theorem zw_goTo {l : Launch} {Γ : mw_C} {b : Nat} (hb : Γ.2.2.2 ≤ b) {W : Nat → Int32} {sd : Int32} {H : Heap} {p c : Nat} (hH : ws_I Γ b W sd H) (hv : iv c W) (hp : p < 5) : mw_Cr l Γ mX3_goesTo 3 0 0 (ws_A b) [.ref b, .int (nI p)] H none (ws_I Γ b (mo_goTo W p) sd) := by
  have hiU : iv c (upd (upd W 4 (W 2)) 2 (nI p)) := iv_goMid hv hp
  refine mw_ofG (P := pX3_goesTo) (by decide) (ws_As hb) oX3_goesTo (Nat.le_of_ble_eq_true rfl) ?_
  intro pg e0 sg mg below meth cd X hs
  refine mw_pre (I' := ws_I Γ b W sd) (fun H1 h1 => by rw [h1]; exact hH) ?_
  refine mw_steps X 1 (pc' := 1) (lv' := [(0, .ref b), (1, .int (nI p))]) (st' := [.ref b]) rfl ?_
  refine mw_get X kf_X3_47.fl kc_3 rfl (v := .ref (b + 15)) (fun H h => ⟨_, h.1, rfl⟩) ?_
  refine mw_steps X 1 (pc' := 5) (lv' := [(0, .ref b), (1, .int (nI p))]) (st' := [.int (nI p), .ref (b + 15)]) rfl ?_
  refine mw_cV1v X kd_X0_moveTo kv_X0_moveTo kl_X3_225 (ci := 0) rfl rfl (Nat.le_of_ble_eq_true rfl) ⟨Nat.le_of_ble_eq_true rfl, Nat.le_of_ble_eq_true rfl⟩ ⟨Nat.le_of_ble_eq_true rfl, Nat.le_of_ble_eq_true rfl⟩ (fun _ h => h) (fun H h => ⟨h.o_guest, ze_moveTo hb h (p := p)⟩) ?_
  refine mw_steps X 5 (pc' := 13) (lv' := [(0, .ref b), (1, .int (nI p))]) (st' := [.ref b, .int (nI 5), .int (nI p), .int (nI 0), .ref b]) rfl ?_
  refine mw_get X kf_X3_47.fl kc_3 rfl (v := .ref (b + 15)) (fun H h => ⟨_, h.1, rfl⟩) ?_
  refine mw_get X kf_X3_201 kc_0 rfl (v := .ref (b + 16)) (fun H h => ⟨_, h.2.2.2.2.2.2.2.2.1, rfl⟩) ?_
  refine mw_cV0r X kd_X1_inRow kv_X1_inRow kl_X3_204 (ci := 1) rfl rfl (Nat.le_of_ble_eq_true rfl) ⟨Nat.le_of_ble_eq_true rfl, Nat.le_of_ble_eq_true rfl⟩ ⟨Nat.le_of_ble_eq_true rfl, Nat.le_of_ble_eq_true rfl⟩ (ws_sub 16 (by omega)) (fun H h => ⟨h.o_words0, y9_inRow hb h⟩) ?_
  refine mw_cV4v X kd_X3_sends kv_X3_sends kl_X3_131 (ci := 3) rfl rfl (Nat.le_of_ble_eq_true rfl) ⟨Nat.le_of_ble_eq_true rfl, Nat.le_of_ble_eq_true rfl⟩ ⟨Nat.le_of_ble_eq_true rfl, Nat.le_of_ble_eq_true rfl⟩ (fun _ h => h) (fun H h => ⟨⟨_, h.1⟩, zw_send0 hb h hiU.1 hp (by omega)⟩) ?_
  exact mw_vret X rfl rfl (fun H h => ⟨rfl, by rw [show mo_goTo W p = mo_send (upd (upd W 4 (W 2)) 2 (nI p)) 0 p 5 (nI (mo_row (upd (upd W 4 (W 2)) 2 (nI p)) 0)) from by unfold mo_goTo mo_heard; rw [show (upd (upd W 4 (W 2)) 2 (nI p)) (2 + 0) = nI p from pk_us, ml_n (by omega)]; exact ml_goes_send0]; exact h⟩)
set_option maxHeartbeats 4000000 in
set_option maxRecDepth 20000 in
theorem zw_lose {l : Launch} {Γ : mw_C} {b : Nat} (hb : Γ.2.2.2 ≤ b) {W : Nat → Int32} {sd : Int32} {H : Heap} {k c : Nat} (hH : ws_I Γ b W sd H) (hv : iv c W) (hk : k < mo_n (W 11)) : mw_Cr l Γ mX3_loses 2 0 0 (ws_A b) [.ref b, .int (nI k)] H none (ws_I Γ b (mo_lose W k) sd) := by
  obtain ⟨n, hn2, hn⟩ := hv.1.1
  have hnn : mo_n (W 11) = n := by rw [hn, ml_n (by omega)]
  rw [hnn] at hk
  refine mw_ofG (P := pX3_loses) (by decide) (ws_As hb) oX3_loses (Nat.le_of_ble_eq_true rfl) ?_
  intro pg e0 sg mg below meth cd X hs
  refine mw_pre (I' := ws_I Γ b W sd) (fun H1 h1 => by rw [h1]; exact hH) ?_
  refine mw_steps X 1 (pc' := 1) (lv' := [(0, .ref b), (1, .int (nI k))]) (st' := [.ref b]) rfl ?_
  refine mw_get X kf_X3_14.fl kc_3 rfl (v := .ref (b + 1)) (fun H h => ⟨_, h.1, rfl⟩) ?_
  refine mw_steps X 1 (pc' := 5) (lv' := [(0, .ref b), (1, .int (nI k))]) (st' := [.int (nI k), .ref (b + 1)]) rfl ?_
  refine mw_cV1r X kd_X2_hasRow kv_X2_hasRow kl_X3_152 (ci := 2) rfl rfl (Nat.le_of_ble_eq_true rfl) ⟨Nat.le_of_ble_eq_true rfl, Nat.le_of_ble_eq_true rfl⟩ ⟨Nat.le_of_ble_eq_true rfl, Nat.le_of_ble_eq_true rfl⟩ (ws_sub 1 (by omega)) (fun H h => ⟨h.o_road, y1_hasRow hb h⟩) ?_
  refine mw_top (y := mo_b (mo_bl (nI k) n)) (congrArg (fun z => mo_b (mo_bl (nI k) z)) hnn) ?_
  refine mw_if_eq X 29 rfl rfl (fun c8 => absurd c8 (by rw [mo_bl_n hk (by omega)]; decide)) (fun c8 => ?_)
  refine mw_steps X 1 (pc' := 12) (lv' := [(0, .ref b), (1, .int (nI k))]) (st' := [.ref b]) rfl ?_
  refine mw_get X kf_X3_14.fl kc_3 rfl (v := .ref (b + 1)) (fun H h => ⟨_, h.1, rfl⟩) ?_
  refine mw_steps X 1 (pc' := 16) (lv' := [(0, .ref b), (1, .int (nI k))]) (st' := [.int (nI k), .ref (b + 1)]) rfl ?_
  refine mw_cV1v X kd_X2_drop kv_X2_drop kl_X3_139 (ci := 2) rfl rfl (Nat.le_of_ble_eq_true rfl) ⟨Nat.le_of_ble_eq_true rfl, Nat.le_of_ble_eq_true rfl⟩ ⟨Nat.le_of_ble_eq_true rfl, Nat.le_of_ble_eq_true rfl⟩ (ws_sub 1 (by omega)) (fun H h => ⟨h.o_road, y1_drop hb h (ml_i11 hv.1) (by rw [hnn]; omega)⟩) ?_
  refine mw_steps X 2 (pc' := 21) (lv' := [(0, .ref b), (1, .int (nI k))]) (st' := [.ref b, .ref b]) rfl ?_
  refine mw_get X kf_X3_92.fl kc_3 rfl (v := .int (W 10)) (fun H h => ⟨_, h.1, congrArg (fun z => some (Value.int z)) (ml_rmr_out hn (by omega) hk (by omega) (by omega))⟩) ?_
  refine mw_steps X 2 (pc' := 26) (lv' := [(0, .ref b), (1, .int (nI k))]) (st' := [.int ((W 10) + (nI 1)), .ref b]) rfl ?_
  refine mw_put X kf_X3_92.fl kc_3 ⟨_, _, _, .int, rfl, rfl, by decide, rfl, rfl⟩ rfl (I1 := ws_I Γ b (upd (mo_rm W 327 6 11 k) (10) ((W 10) + (nI 1))) sd) (fun H h => ⟨ws_Ab, _, h.1, Nat.le_of_ble_eq_true rfl, fun H1 o c => h.s10 o c⟩) ?_
  exact mw_vret X rfl rfl (fun H h => ⟨rfl, by rw [show mo_lose W k = upd (mo_rm W 327 6 11 k) (10) ((W 10) + (nI 1)) from by rfl]; exact h⟩)
set_option maxHeartbeats 4000000 in
set_option maxRecDepth 20000 in
theorem zw_arr0 {l : Launch} {Γ : mw_C} {b : Nat} (hb : Γ.2.2.2 ≤ b) {W : Nat → Int32} {sd : Int32} {H : Heap} {k c : Nat} (hH : ws_I Γ b W sd H) (hv : iv (c + 25) W) (hk : k < mo_n (W 11)) (hend : W (327 + 6 * k) = nI 0) : mw_Cr l Γ mX3_delivers 6 0 0 (ws_A b) [.ref b, .int (nI k)] H (some (.int (nI (mo_why W k)))) (ws_I Γ b (mo_arr W k) sd) := by
  obtain ⟨n, hn2, hn⟩ := hv.1.1
  have hnn : mo_n (W 11) = n := by rw [hn, ml_n (by omega)]
  obtain ⟨e2, p, y, kd, he2, hp, hy, hkd, hee, hpp, hyy, hkk, hvx⟩ := hv.2.2.1 k hk
  have he3 : e2 = 0 := by rw [hend, nI_eq (by omega) (by omega)] at hee; exact hee.symm
  subst he3
  have hvR := iv_rmr hv hk
  rw [hnn] at hk
  obtain ⟨wy, hwy⟩ : ∃ wy, wy = mo_houseWhy (mo_rm W 327 6 11 k) (W (327 + 6 * k + 2)) y := ⟨_, rfl⟩
  obtain ⟨V, hV⟩ : ∃ V, V = mo_house (mo_rm W 327 6 11 k) p (W (327 + 6 * k + 2)) y kd (W (327 + 6 * k + 5)) := ⟨_, rfl⟩
  have hw1 : wy = mo_why W k := by rw [hwy]; exact (ml_why_h hend hpp hyy hp hy).symm
  have hV1 : V = mo_taken W k := by rw [hV]; exact (ml_taken_h hend hpp hyy hkk hp hy hkd).symm
  have hw3 : wy ≤ 3 := by rw [hwy]; exact ml_hw3 _ _ _
  rw [← hw1]
  refine mw_ofG (P := pX3_delivers) (by decide) (ws_As hb) oX3_delivers (Nat.le_of_ble_eq_true rfl) ?_
  intro pg e0 sg mg below meth cd X hs
  refine mw_pre (I' := ws_I Γ b W sd) (fun H1 h1 => by rw [h1]; exact hH) ?_
  refine mw_steps X 1 (pc' := 1) (lv' := [(0, .ref b), (1, .int (nI k))]) (st' := [.ref b]) rfl ?_
  refine mw_get X kf_X3_14.fl kc_3 rfl (v := .ref (b + 1)) (fun H h => ⟨_, h.1, rfl⟩) ?_
  refine mw_steps X 2 (pc' := 6) (lv' := [(0, .ref b), (1, .int (nI k))]) (st' := [.int (nI 0), .int (nI k), .ref (b + 1)]) rfl ?_
  refine mw_cV2r X kd_X2_at kv_X2_at kl_X3_98 (ci := 2) rfl rfl (Nat.le_of_ble_eq_true rfl) ⟨Nat.le_of_ble_eq_true rfl, Nat.le_of_ble_eq_true rfl⟩ ⟨Nat.le_of_ble_eq_true rfl, Nat.le_of_ble_eq_true rfl⟩ (ws_sub 1 (by omega)) (fun H h => ⟨h.o_road, y1_at0 hb h (by rw [hnn]; omega)⟩) ?_
  refine mw_top (y := nI 0) hend ?_
  refine mw_steps X 2 (pc' := 11) (lv' := [(2, .int (nI 0)), (0, .ref b), (1, .int (nI k))]) (st' := [.ref b]) rfl ?_
  refine mw_get X kf_X3_14.fl kc_3 rfl (v := .ref (b + 1)) (fun H h => ⟨_, h.1, rfl⟩) ?_
  refine mw_steps X 2 (pc' := 16) (lv' := [(2, .int (nI 0)), (0, .ref b), (1, .int (nI k))]) (st' := [.int (nI 1), .int (nI k), .ref (b + 1)]) rfl ?_
  refine mw_cV2r X kd_X2_at kv_X2_at kl_X3_98 (ci := 2) rfl rfl (Nat.le_of_ble_eq_true rfl) ⟨Nat.le_of_ble_eq_true rfl, Nat.le_of_ble_eq_true rfl⟩ ⟨Nat.le_of_ble_eq_true rfl, Nat.le_of_ble_eq_true rfl⟩ (ws_sub 1 (by omega)) (fun H h => ⟨h.o_road, y1_at1 hb h (by rw [hnn]; omega)⟩) ?_
  refine mw_top (y := nI p) hpp ?_
  refine mw_steps X 2 (pc' := 21) (lv' := [(3, .int (nI p)), (2, .int (nI 0)), (0, .ref b), (1, .int (nI k))]) (st' := [.ref b]) rfl ?_
  refine mw_get X kf_X3_14.fl kc_3 rfl (v := .ref (b + 1)) (fun H h => ⟨_, h.1, rfl⟩) ?_
  refine mw_steps X 2 (pc' := 26) (lv' := [(3, .int (nI p)), (2, .int (nI 0)), (0, .ref b), (1, .int (nI k))]) (st' := [.int (nI 2), .int (nI k), .ref (b + 1)]) rfl ?_
  refine mw_cV2r X kd_X2_at kv_X2_at kl_X3_98 (ci := 2) rfl rfl (Nat.le_of_ble_eq_true rfl) ⟨Nat.le_of_ble_eq_true rfl, Nat.le_of_ble_eq_true rfl⟩ ⟨Nat.le_of_ble_eq_true rfl, Nat.le_of_ble_eq_true rfl⟩ (ws_sub 1 (by omega)) (fun H h => ⟨h.o_road, y1_at2 hb h (by rw [hnn]; omega)⟩) ?_
  refine mw_steps X 2 (pc' := 32) (lv' := [(4, .int (W (327 + 6 * k + 2))), (3, .int (nI p)), (2, .int (nI 0)), (0, .ref b), (1, .int (nI k))]) (st' := [.ref b]) rfl ?_
  refine mw_get X kf_X3_14.fl kc_3 rfl (v := .ref (b + 1)) (fun H h => ⟨_, h.1, rfl⟩) ?_
  refine mw_steps X 2 (pc' := 37) (lv' := [(4, .int (W (327 + 6 * k + 2))), (3, .int (nI p)), (2, .int (nI 0)), (0, .ref b), (1, .int (nI k))]) (st' := [.int (nI 3), .int (nI k), .ref (b + 1)]) rfl ?_
  refine mw_cV2r X kd_X2_at kv_X2_at kl_X3_98 (ci := 2) rfl rfl (Nat.le_of_ble_eq_true rfl) ⟨Nat.le_of_ble_eq_true rfl, Nat.le_of_ble_eq_true rfl⟩ ⟨Nat.le_of_ble_eq_true rfl, Nat.le_of_ble_eq_true rfl⟩ (ws_sub 1 (by omega)) (fun H h => ⟨h.o_road, y1_at3 hb h (by rw [hnn]; omega)⟩) ?_
  refine mw_top (y := nI y) hyy ?_
  refine mw_steps X 2 (pc' := 43) (lv' := [(5, .int (nI y)), (4, .int (W (327 + 6 * k + 2))), (3, .int (nI p)), (2, .int (nI 0)), (0, .ref b), (1, .int (nI k))]) (st' := [.ref b]) rfl ?_
  refine mw_get X kf_X3_14.fl kc_3 rfl (v := .ref (b + 1)) (fun H h => ⟨_, h.1, rfl⟩) ?_
  refine mw_steps X 2 (pc' := 48) (lv' := [(5, .int (nI y)), (4, .int (W (327 + 6 * k + 2))), (3, .int (nI p)), (2, .int (nI 0)), (0, .ref b), (1, .int (nI k))]) (st' := [.int (nI 4), .int (nI k), .ref (b + 1)]) rfl ?_
  refine mw_cV2r X kd_X2_at kv_X2_at kl_X3_98 (ci := 2) rfl rfl (Nat.le_of_ble_eq_true rfl) ⟨Nat.le_of_ble_eq_true rfl, Nat.le_of_ble_eq_true rfl⟩ ⟨Nat.le_of_ble_eq_true rfl, Nat.le_of_ble_eq_true rfl⟩ (ws_sub 1 (by omega)) (fun H h => ⟨h.o_road, y1_at4 hb h (by rw [hnn]; omega)⟩) ?_
  refine mw_top (y := nI kd) hkk ?_
  refine mw_steps X 2 (pc' := 54) (lv' := [(6, .int (nI kd)), (5, .int (nI y)), (4, .int (W (327 + 6 * k + 2))), (3, .int (nI p)), (2, .int (nI 0)), (0, .ref b), (1, .int (nI k))]) (st' := [.ref b]) rfl ?_
  refine mw_get X kf_X3_14.fl kc_3 rfl (v := .ref (b + 1)) (fun H h => ⟨_, h.1, rfl⟩) ?_
  refine mw_steps X 2 (pc' := 59) (lv' := [(6, .int (nI kd)), (5, .int (nI y)), (4, .int (W (327 + 6 * k + 2))), (3, .int (nI p)), (2, .int (nI 0)), (0, .ref b), (1, .int (nI k))]) (st' := [.int (nI 5), .int (nI k), .ref (b + 1)]) rfl ?_
  refine mw_cV2r X kd_X2_at kv_X2_at kl_X3_98 (ci := 2) rfl rfl (Nat.le_of_ble_eq_true rfl) ⟨Nat.le_of_ble_eq_true rfl, Nat.le_of_ble_eq_true rfl⟩ ⟨Nat.le_of_ble_eq_true rfl, Nat.le_of_ble_eq_true rfl⟩ (ws_sub 1 (by omega)) (fun H h => ⟨h.o_road, y1_at5 hb h (by rw [hnn]; omega)⟩) ?_
  refine mw_steps X 2 (pc' := 65) (lv' := [(7, .int (W (327 + 6 * k + 5))), (6, .int (nI kd)), (5, .int (nI y)), (4, .int (W (327 + 6 * k + 2))), (3, .int (nI p)), (2, .int (nI 0)), (0, .ref b), (1, .int (nI k))]) (st' := [.ref b]) rfl ?_
  refine mw_get X kf_X3_14.fl kc_3 rfl (v := .ref (b + 1)) (fun H h => ⟨_, h.1, rfl⟩) ?_
  refine mw_steps X 1 (pc' := 69) (lv' := [(7, .int (W (327 + 6 * k + 5))), (6, .int (nI kd)), (5, .int (nI y)), (4, .int (W (327 + 6 * k + 2))), (3, .int (nI p)), (2, .int (nI 0)), (0, .ref b), (1, .int (nI k))]) (st' := [.int (nI k), .ref (b + 1)]) rfl ?_
  refine mw_cV1v X kd_X2_drop kv_X2_drop kl_X3_139 (ci := 2) rfl rfl (Nat.le_of_ble_eq_true rfl) ⟨Nat.le_of_ble_eq_true rfl, Nat.le_of_ble_eq_true rfl⟩ ⟨Nat.le_of_ble_eq_true rfl, Nat.le_of_ble_eq_true rfl⟩ (ws_sub 1 (by omega)) (fun H h => ⟨h.o_road, y1_drop hb h (ml_i11 hv.1) (by rw [hnn]; omega)⟩) ?_
  refine mw_steps X 1 (pc' := 73) (lv' := [(7, .int (W (327 + 6 * k + 5))), (6, .int (nI kd)), (5, .int (nI y)), (4, .int (W (327 + 6 * k + 2))), (3, .int (nI p)), (2, .int (nI 0)), (0, .ref b), (1, .int (nI k))]) (st' := [.int (nI 0)]) rfl ?_
  refine mw_if_ne X 92 rfl rfl (fun c73 => absurd (by decide) c73) (fun c73 => ?_)
  refine mw_steps X 6 (pc' := 86) (lv' := [(7, .int (W (327 + 6 * k + 5))), (6, .int (nI kd)), (5, .int (nI y)), (4, .int (W (327 + 6 * k + 2))), (3, .int (nI p)), (2, .int (nI 0)), (0, .ref b), (1, .int (nI k))]) (st' := [.int (W (327 + 6 * k + 5)), .int (nI kd), .int (nI y), .int (W (327 + 6 * k + 2)), .int (nI p), .ref b]) rfl ?_
  refine mw_cV5r X kd_X3_houseTakes kv_X3_houseTakes kl_X3_155 (ci := 3) rfl rfl (Nat.le_of_ble_eq_true rfl) ⟨Nat.le_of_ble_eq_true rfl, Nat.le_of_ble_eq_true rfl⟩ ⟨Nat.le_of_ble_eq_true rfl, Nat.le_of_ble_eq_true rfl⟩ (fun _ h => h) (fun H h => ⟨⟨_, h.1⟩, zw_house hb h (c := c) hvR hp hy hkd hvx⟩) ?_
  rw [← hwy, ← hV]
  refine mw_steps X 3 (pc' := 107) (lv' := [(8, .int (nI wy)), (7, .int (W (327 + 6 * k + 5))), (6, .int (nI kd)), (5, .int (nI y)), (4, .int (W (327 + 6 * k + 2))), (3, .int (nI p)), (2, .int (nI 0)), (0, .ref b), (1, .int (nI k))]) (st' := [.int (nI wy)]) rfl ?_
  refine mw_if_le X 131 rfl rfl (fun c107 => ?_) (fun c107 => ?_)
  · have hw0 : wy = 0 := by rw [← nI_0, nI_leI (by omega) (by omega)] at c107; omega
    refine mw_steps X 1 (pc' := 133) (lv' := [(8, .int (nI wy)), (7, .int (W (327 + 6 * k + 5))), (6, .int (nI kd)), (5, .int (nI y)), (4, .int (W (327 + 6 * k + 2))), (3, .int (nI p)), (2, .int (nI 0)), (0, .ref b), (1, .int (nI k))]) (st' := [.int (nI wy)]) rfl ?_
    exact mw_iret X rfl rfl (fun H h => ⟨rfl, by rw [show mo_arr W k = V from by unfold mo_arr; rw [← hw1, if_pos hw0, ← hV1]]; exact h⟩)
  · have hw0 : ¬ wy = 0 := fun q => c107 (by rw [q]; decide)
    refine mw_steps X 2 (pc' := 113) (lv' := [(8, .int (nI wy)), (7, .int (W (327 + 6 * k + 5))), (6, .int (nI kd)), (5, .int (nI y)), (4, .int (W (327 + 6 * k + 2))), (3, .int (nI p)), (2, .int (nI 0)), (0, .ref b), (1, .int (nI k))]) (st' := [.ref b, .int (nI wy)]) rfl ?_
    refine mw_get X kf_X3_54.fl kc_3 rfl (v := .ref (b + 25)) (fun H h => ⟨_, h.1, rfl⟩) ?_
    refine mw_ilen X 4 rfl (fun H h => ⟨_, h.2.2.2.2.2.2.2.2.2.2.2.2.2.2.choose_spec.1⟩) ?_
    refine mw_icmp_ge X 131 rfl rfl (fun c117 => absurd c117 (by rw [nI_leI (by omega) (by omega)]; omega)) (fun c117 => ?_)
    refine mw_steps X 1 (pc' := 121) (lv' := [(8, .int (nI wy)), (7, .int (W (327 + 6 * k + 5))), (6, .int (nI kd)), (5, .int (nI y)), (4, .int (W (327 + 6 * k + 2))), (3, .int (nI p)), (2, .int (nI 0)), (0, .ref b), (1, .int (nI k))]) (st' := [.ref b]) rfl ?_
    refine mw_get X kf_X3_54.fl kc_3 rfl (v := .ref (b + 25)) (fun H h => ⟨_, h.1, rfl⟩) ?_
    refine mw_steps X 2 (pc' := 127) (lv' := [(8, .int (nI wy)), (7, .int (W (327 + 6 * k + 5))), (6, .int (nI kd)), (5, .int (nI y)), (4, .int (W (327 + 6 * k + 2))), (3, .int (nI p)), (2, .int (nI 0)), (0, .ref b), (1, .int (nI k))]) (st' := [.int (nI wy), .ref (b + 25), .int (nI wy), .ref (b + 25)]) rfl ?_
    refine mw_iald X (v := V (6 + wy)) wy rfl rfl (fun H h => by obtain ⟨f, f1, f2, f3⟩ := h.2.2.2.2.2.2.2.2.2.2.2.2.2.2; exact ⟨4, f, f1, by omega, by decide, f3 wy (by omega) (by omega)⟩) ?_
    refine mw_steps X 2 (pc' := 130) (lv' := [(8, .int (nI wy)), (7, .int (W (327 + 6 * k + 5))), (6, .int (nI kd)), (5, .int (nI y)), (4, .int (W (327 + 6 * k + 2))), (3, .int (nI p)), (2, .int (nI 0)), (0, .ref b), (1, .int (nI k))]) (st' := [.int ((V (6 + wy)) + (nI 1)), .int (nI wy), .ref (b + 25)]) rfl ?_
    refine mw_iast X (I1 := ws_I Γ b (upd V (6 + wy) (V (6 + wy) + nI 1)) sd) wy rfl rfl (fun H h => by
      obtain ⟨f, f1, f2, f3⟩ := h.2.2.2.2.2.2.2.2.2.2.2.2.2.2
      refine ⟨ws_A0 (by omega), 4, f, f1, by omega, by decide, fun H1 o cc => h.put14 (fun j hj => pk_un (by omega)) (fun q _ z => o.2 q (by omega)) ⟨_, cc, by rw [pk_un (by omega)]; exact f2, fun j h1 h2 => ?_⟩⟩
      by_cases hj : j = wy
      · subst hj; rw [pk_us, pk_us]
      · rw [pk_un hj, pk_un (by omega)]; exact f3 j h1 h2) ?_
    refine mw_steps X 1 (pc' := 133) (lv' := [(8, .int (nI wy)), (7, .int (W (327 + 6 * k + 5))), (6, .int (nI kd)), (5, .int (nI y)), (4, .int (W (327 + 6 * k + 2))), (3, .int (nI p)), (2, .int (nI 0)), (0, .ref b), (1, .int (nI k))]) (st' := [.int (nI wy)]) rfl ?_
    exact mw_iret X rfl rfl (fun H h => ⟨rfl, by rw [show mo_arr W k = upd V (6 + wy) (V (6 + wy) + nI 1) from by unfold mo_arr; rw [← hw1, if_neg hw0, ← hV1]]; exact h⟩)
set_option maxHeartbeats 4000000 in
set_option maxRecDepth 20000 in
theorem zw_arr1 {l : Launch} {Γ : mw_C} {b : Nat} (hb : Γ.2.2.2 ≤ b) {W : Nat → Int32} {sd : Int32} {H : Heap} {k c : Nat} (hH : ws_I Γ b W sd H) (hv : iv (c + 25) W) (hk : k < mo_n (W 11)) (hend : W (327 + 6 * k) = nI 1) : mw_Cr l Γ mX3_delivers 6 0 0 (ws_A b) [.ref b, .int (nI k)] H (some (.int (nI (mo_why W k)))) (ws_I Γ b (mo_arr W k) sd) := by
  obtain ⟨n, hn2, hn⟩ := hv.1.1
  have hnn : mo_n (W 11) = n := by rw [hn, ml_n (by omega)]
  obtain ⟨e2, p, y, kd, he2, hp, hy, hkd, hee, hpp, hyy, hkk, hvx⟩ := hv.2.2.1 k hk
  have he3 : e2 = 1 := by rw [hend, nI_eq (by omega) (by omega)] at hee; exact hee.symm
  subst he3
  have hvR := iv_rmr hv hk
  rw [hnn] at hk
  obtain ⟨wy, hwy⟩ : ∃ wy, wy = mo_guestWhy (mo_rm W 327 6 11 k) p y := ⟨_, rfl⟩
  obtain ⟨V, hV⟩ : ∃ V, V = mo_guest (mo_rm W 327 6 11 k) p y kd (W (327 + 6 * k + 5)) := ⟨_, rfl⟩
  have hw1 : wy = mo_why W k := by rw [hwy]; exact (ml_why_g hend hpp hyy hp hy).symm
  have hV1 : V = mo_taken W k := by rw [hV]; exact (ml_taken_g hend hpp hyy hkk hp hy hkd).symm
  have hw3 : wy ≤ 3 := by rw [hwy]; exact ml_gw3 _ _ _
  rw [← hw1]
  refine mw_ofG (P := pX3_delivers) (by decide) (ws_As hb) oX3_delivers (Nat.le_of_ble_eq_true rfl) ?_
  intro pg e0 sg mg below meth cd X hs
  refine mw_pre (I' := ws_I Γ b W sd) (fun H1 h1 => by rw [h1]; exact hH) ?_
  refine mw_steps X 1 (pc' := 1) (lv' := [(0, .ref b), (1, .int (nI k))]) (st' := [.ref b]) rfl ?_
  refine mw_get X kf_X3_14.fl kc_3 rfl (v := .ref (b + 1)) (fun H h => ⟨_, h.1, rfl⟩) ?_
  refine mw_steps X 2 (pc' := 6) (lv' := [(0, .ref b), (1, .int (nI k))]) (st' := [.int (nI 0), .int (nI k), .ref (b + 1)]) rfl ?_
  refine mw_cV2r X kd_X2_at kv_X2_at kl_X3_98 (ci := 2) rfl rfl (Nat.le_of_ble_eq_true rfl) ⟨Nat.le_of_ble_eq_true rfl, Nat.le_of_ble_eq_true rfl⟩ ⟨Nat.le_of_ble_eq_true rfl, Nat.le_of_ble_eq_true rfl⟩ (ws_sub 1 (by omega)) (fun H h => ⟨h.o_road, y1_at0 hb h (by rw [hnn]; omega)⟩) ?_
  refine mw_top (y := nI 1) hend ?_
  refine mw_steps X 2 (pc' := 11) (lv' := [(2, .int (nI 1)), (0, .ref b), (1, .int (nI k))]) (st' := [.ref b]) rfl ?_
  refine mw_get X kf_X3_14.fl kc_3 rfl (v := .ref (b + 1)) (fun H h => ⟨_, h.1, rfl⟩) ?_
  refine mw_steps X 2 (pc' := 16) (lv' := [(2, .int (nI 1)), (0, .ref b), (1, .int (nI k))]) (st' := [.int (nI 1), .int (nI k), .ref (b + 1)]) rfl ?_
  refine mw_cV2r X kd_X2_at kv_X2_at kl_X3_98 (ci := 2) rfl rfl (Nat.le_of_ble_eq_true rfl) ⟨Nat.le_of_ble_eq_true rfl, Nat.le_of_ble_eq_true rfl⟩ ⟨Nat.le_of_ble_eq_true rfl, Nat.le_of_ble_eq_true rfl⟩ (ws_sub 1 (by omega)) (fun H h => ⟨h.o_road, y1_at1 hb h (by rw [hnn]; omega)⟩) ?_
  refine mw_top (y := nI p) hpp ?_
  refine mw_steps X 2 (pc' := 21) (lv' := [(3, .int (nI p)), (2, .int (nI 1)), (0, .ref b), (1, .int (nI k))]) (st' := [.ref b]) rfl ?_
  refine mw_get X kf_X3_14.fl kc_3 rfl (v := .ref (b + 1)) (fun H h => ⟨_, h.1, rfl⟩) ?_
  refine mw_steps X 2 (pc' := 26) (lv' := [(3, .int (nI p)), (2, .int (nI 1)), (0, .ref b), (1, .int (nI k))]) (st' := [.int (nI 2), .int (nI k), .ref (b + 1)]) rfl ?_
  refine mw_cV2r X kd_X2_at kv_X2_at kl_X3_98 (ci := 2) rfl rfl (Nat.le_of_ble_eq_true rfl) ⟨Nat.le_of_ble_eq_true rfl, Nat.le_of_ble_eq_true rfl⟩ ⟨Nat.le_of_ble_eq_true rfl, Nat.le_of_ble_eq_true rfl⟩ (ws_sub 1 (by omega)) (fun H h => ⟨h.o_road, y1_at2 hb h (by rw [hnn]; omega)⟩) ?_
  refine mw_steps X 2 (pc' := 32) (lv' := [(4, .int (W (327 + 6 * k + 2))), (3, .int (nI p)), (2, .int (nI 1)), (0, .ref b), (1, .int (nI k))]) (st' := [.ref b]) rfl ?_
  refine mw_get X kf_X3_14.fl kc_3 rfl (v := .ref (b + 1)) (fun H h => ⟨_, h.1, rfl⟩) ?_
  refine mw_steps X 2 (pc' := 37) (lv' := [(4, .int (W (327 + 6 * k + 2))), (3, .int (nI p)), (2, .int (nI 1)), (0, .ref b), (1, .int (nI k))]) (st' := [.int (nI 3), .int (nI k), .ref (b + 1)]) rfl ?_
  refine mw_cV2r X kd_X2_at kv_X2_at kl_X3_98 (ci := 2) rfl rfl (Nat.le_of_ble_eq_true rfl) ⟨Nat.le_of_ble_eq_true rfl, Nat.le_of_ble_eq_true rfl⟩ ⟨Nat.le_of_ble_eq_true rfl, Nat.le_of_ble_eq_true rfl⟩ (ws_sub 1 (by omega)) (fun H h => ⟨h.o_road, y1_at3 hb h (by rw [hnn]; omega)⟩) ?_
  refine mw_top (y := nI y) hyy ?_
  refine mw_steps X 2 (pc' := 43) (lv' := [(5, .int (nI y)), (4, .int (W (327 + 6 * k + 2))), (3, .int (nI p)), (2, .int (nI 1)), (0, .ref b), (1, .int (nI k))]) (st' := [.ref b]) rfl ?_
  refine mw_get X kf_X3_14.fl kc_3 rfl (v := .ref (b + 1)) (fun H h => ⟨_, h.1, rfl⟩) ?_
  refine mw_steps X 2 (pc' := 48) (lv' := [(5, .int (nI y)), (4, .int (W (327 + 6 * k + 2))), (3, .int (nI p)), (2, .int (nI 1)), (0, .ref b), (1, .int (nI k))]) (st' := [.int (nI 4), .int (nI k), .ref (b + 1)]) rfl ?_
  refine mw_cV2r X kd_X2_at kv_X2_at kl_X3_98 (ci := 2) rfl rfl (Nat.le_of_ble_eq_true rfl) ⟨Nat.le_of_ble_eq_true rfl, Nat.le_of_ble_eq_true rfl⟩ ⟨Nat.le_of_ble_eq_true rfl, Nat.le_of_ble_eq_true rfl⟩ (ws_sub 1 (by omega)) (fun H h => ⟨h.o_road, y1_at4 hb h (by rw [hnn]; omega)⟩) ?_
  refine mw_top (y := nI kd) hkk ?_
  refine mw_steps X 2 (pc' := 54) (lv' := [(6, .int (nI kd)), (5, .int (nI y)), (4, .int (W (327 + 6 * k + 2))), (3, .int (nI p)), (2, .int (nI 1)), (0, .ref b), (1, .int (nI k))]) (st' := [.ref b]) rfl ?_
  refine mw_get X kf_X3_14.fl kc_3 rfl (v := .ref (b + 1)) (fun H h => ⟨_, h.1, rfl⟩) ?_
  refine mw_steps X 2 (pc' := 59) (lv' := [(6, .int (nI kd)), (5, .int (nI y)), (4, .int (W (327 + 6 * k + 2))), (3, .int (nI p)), (2, .int (nI 1)), (0, .ref b), (1, .int (nI k))]) (st' := [.int (nI 5), .int (nI k), .ref (b + 1)]) rfl ?_
  refine mw_cV2r X kd_X2_at kv_X2_at kl_X3_98 (ci := 2) rfl rfl (Nat.le_of_ble_eq_true rfl) ⟨Nat.le_of_ble_eq_true rfl, Nat.le_of_ble_eq_true rfl⟩ ⟨Nat.le_of_ble_eq_true rfl, Nat.le_of_ble_eq_true rfl⟩ (ws_sub 1 (by omega)) (fun H h => ⟨h.o_road, y1_at5 hb h (by rw [hnn]; omega)⟩) ?_
  refine mw_steps X 2 (pc' := 65) (lv' := [(7, .int (W (327 + 6 * k + 5))), (6, .int (nI kd)), (5, .int (nI y)), (4, .int (W (327 + 6 * k + 2))), (3, .int (nI p)), (2, .int (nI 1)), (0, .ref b), (1, .int (nI k))]) (st' := [.ref b]) rfl ?_
  refine mw_get X kf_X3_14.fl kc_3 rfl (v := .ref (b + 1)) (fun H h => ⟨_, h.1, rfl⟩) ?_
  refine mw_steps X 1 (pc' := 69) (lv' := [(7, .int (W (327 + 6 * k + 5))), (6, .int (nI kd)), (5, .int (nI y)), (4, .int (W (327 + 6 * k + 2))), (3, .int (nI p)), (2, .int (nI 1)), (0, .ref b), (1, .int (nI k))]) (st' := [.int (nI k), .ref (b + 1)]) rfl ?_
  refine mw_cV1v X kd_X2_drop kv_X2_drop kl_X3_139 (ci := 2) rfl rfl (Nat.le_of_ble_eq_true rfl) ⟨Nat.le_of_ble_eq_true rfl, Nat.le_of_ble_eq_true rfl⟩ ⟨Nat.le_of_ble_eq_true rfl, Nat.le_of_ble_eq_true rfl⟩ (ws_sub 1 (by omega)) (fun H h => ⟨h.o_road, y1_drop hb h (ml_i11 hv.1) (by rw [hnn]; omega)⟩) ?_
  refine mw_steps X 1 (pc' := 73) (lv' := [(7, .int (W (327 + 6 * k + 5))), (6, .int (nI kd)), (5, .int (nI y)), (4, .int (W (327 + 6 * k + 2))), (3, .int (nI p)), (2, .int (nI 1)), (0, .ref b), (1, .int (nI k))]) (st' := [.int (nI 1)]) rfl ?_
  refine mw_if_ne X 92 rfl rfl (fun c73 => ?_) (fun c73 => absurd c73 (by decide))
  refine mw_steps X 5 (pc' := 100) (lv' := [(7, .int (W (327 + 6 * k + 5))), (6, .int (nI kd)), (5, .int (nI y)), (4, .int (W (327 + 6 * k + 2))), (3, .int (nI p)), (2, .int (nI 1)), (0, .ref b), (1, .int (nI k))]) (st' := [.int (W (327 + 6 * k + 5)), .int (nI kd), .int (nI y), .int (nI p), .ref b]) rfl ?_
  refine mw_cV4r X kd_X3_guestTakes kv_X3_guestTakes kl_X3_159 (ci := 3) rfl rfl (Nat.le_of_ble_eq_true rfl) ⟨Nat.le_of_ble_eq_true rfl, Nat.le_of_ble_eq_true rfl⟩ ⟨Nat.le_of_ble_eq_true rfl, Nat.le_of_ble_eq_true rfl⟩ (fun _ h => h) (fun H h => ⟨⟨_, h.1⟩, zw_guest hb h hvR hp hy hkd hvx⟩) ?_
  rw [← hwy, ← hV]
  refine mw_steps X 2 (pc' := 107) (lv' := [(8, .int (nI wy)), (7, .int (W (327 + 6 * k + 5))), (6, .int (nI kd)), (5, .int (nI y)), (4, .int (W (327 + 6 * k + 2))), (3, .int (nI p)), (2, .int (nI 1)), (0, .ref b), (1, .int (nI k))]) (st' := [.int (nI wy)]) rfl ?_
  refine mw_if_le X 131 rfl rfl (fun c107 => ?_) (fun c107 => ?_)
  · have hw0 : wy = 0 := by rw [← nI_0, nI_leI (by omega) (by omega)] at c107; omega
    refine mw_steps X 1 (pc' := 133) (lv' := [(8, .int (nI wy)), (7, .int (W (327 + 6 * k + 5))), (6, .int (nI kd)), (5, .int (nI y)), (4, .int (W (327 + 6 * k + 2))), (3, .int (nI p)), (2, .int (nI 1)), (0, .ref b), (1, .int (nI k))]) (st' := [.int (nI wy)]) rfl ?_
    exact mw_iret X rfl rfl (fun H h => ⟨rfl, by rw [show mo_arr W k = V from by unfold mo_arr; rw [← hw1, if_pos hw0, ← hV1]]; exact h⟩)
  · have hw0 : ¬ wy = 0 := fun q => c107 (by rw [q]; decide)
    refine mw_steps X 2 (pc' := 113) (lv' := [(8, .int (nI wy)), (7, .int (W (327 + 6 * k + 5))), (6, .int (nI kd)), (5, .int (nI y)), (4, .int (W (327 + 6 * k + 2))), (3, .int (nI p)), (2, .int (nI 1)), (0, .ref b), (1, .int (nI k))]) (st' := [.ref b, .int (nI wy)]) rfl ?_
    refine mw_get X kf_X3_54.fl kc_3 rfl (v := .ref (b + 25)) (fun H h => ⟨_, h.1, rfl⟩) ?_
    refine mw_ilen X 4 rfl (fun H h => ⟨_, h.2.2.2.2.2.2.2.2.2.2.2.2.2.2.choose_spec.1⟩) ?_
    refine mw_icmp_ge X 131 rfl rfl (fun c117 => absurd c117 (by rw [nI_leI (by omega) (by omega)]; omega)) (fun c117 => ?_)
    refine mw_steps X 1 (pc' := 121) (lv' := [(8, .int (nI wy)), (7, .int (W (327 + 6 * k + 5))), (6, .int (nI kd)), (5, .int (nI y)), (4, .int (W (327 + 6 * k + 2))), (3, .int (nI p)), (2, .int (nI 1)), (0, .ref b), (1, .int (nI k))]) (st' := [.ref b]) rfl ?_
    refine mw_get X kf_X3_54.fl kc_3 rfl (v := .ref (b + 25)) (fun H h => ⟨_, h.1, rfl⟩) ?_
    refine mw_steps X 2 (pc' := 127) (lv' := [(8, .int (nI wy)), (7, .int (W (327 + 6 * k + 5))), (6, .int (nI kd)), (5, .int (nI y)), (4, .int (W (327 + 6 * k + 2))), (3, .int (nI p)), (2, .int (nI 1)), (0, .ref b), (1, .int (nI k))]) (st' := [.int (nI wy), .ref (b + 25), .int (nI wy), .ref (b + 25)]) rfl ?_
    refine mw_iald X (v := V (6 + wy)) wy rfl rfl (fun H h => by obtain ⟨f, f1, f2, f3⟩ := h.2.2.2.2.2.2.2.2.2.2.2.2.2.2; exact ⟨4, f, f1, by omega, by decide, f3 wy (by omega) (by omega)⟩) ?_
    refine mw_steps X 2 (pc' := 130) (lv' := [(8, .int (nI wy)), (7, .int (W (327 + 6 * k + 5))), (6, .int (nI kd)), (5, .int (nI y)), (4, .int (W (327 + 6 * k + 2))), (3, .int (nI p)), (2, .int (nI 1)), (0, .ref b), (1, .int (nI k))]) (st' := [.int ((V (6 + wy)) + (nI 1)), .int (nI wy), .ref (b + 25)]) rfl ?_
    refine mw_iast X (I1 := ws_I Γ b (upd V (6 + wy) (V (6 + wy) + nI 1)) sd) wy rfl rfl (fun H h => by
      obtain ⟨f, f1, f2, f3⟩ := h.2.2.2.2.2.2.2.2.2.2.2.2.2.2
      refine ⟨ws_A0 (by omega), 4, f, f1, by omega, by decide, fun H1 o cc => h.put14 (fun j hj => pk_un (by omega)) (fun q _ z => o.2 q (by omega)) ⟨_, cc, by rw [pk_un (by omega)]; exact f2, fun j h1 h2 => ?_⟩⟩
      by_cases hj : j = wy
      · subst hj; rw [pk_us, pk_us]
      · rw [pk_un hj, pk_un (by omega)]; exact f3 j h1 h2) ?_
    refine mw_steps X 1 (pc' := 133) (lv' := [(8, .int (nI wy)), (7, .int (W (327 + 6 * k + 5))), (6, .int (nI kd)), (5, .int (nI y)), (4, .int (W (327 + 6 * k + 2))), (3, .int (nI p)), (2, .int (nI 1)), (0, .ref b), (1, .int (nI k))]) (st' := [.int (nI wy)]) rfl ?_
    exact mw_iret X rfl rfl (fun H h => ⟨rfl, by rw [show mo_arr W k = upd V (6 + wy) (V (6 + wy) + nI 1) from by unfold mo_arr; rw [← hw1, if_neg hw0, ← hV1]]; exact h⟩)
theorem zw_arr {l : Launch} {Γ : mw_C} {b : Nat} (hb : Γ.2.2.2 ≤ b) {W : Nat → Int32} {sd : Int32} {H : Heap} {k c : Nat} (hH : ws_I Γ b W sd H) (hv : iv (c + 25) W) (hk : k < mo_n (W 11)) : mw_Cr l Γ mX3_delivers 6 0 0 (ws_A b) [.ref b, .int (nI k)] H (some (.int (nI (mo_why W k)))) (ws_I Γ b (mo_arr W k) sd) := by
  obtain ⟨e, p, y, kd, he, hp, hy, hkd, hee, hpp, hyy, hkk, hvx⟩ := hv.2.2.1 k hk
  rcases (show e = 0 ∨ e = 1 by omega) with rfl | rfl
  · exact zw_arr0 hb hH hv hk hee
  · exact zw_arr1 hb hH hv hk hee
