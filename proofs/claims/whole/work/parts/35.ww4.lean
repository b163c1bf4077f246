set_option maxHeartbeats 4000000 in
set_option maxRecDepth 20000 in
theorem zw_act0 {l : Launch} {Γ : mw_C} {b : Nat} (hb : Γ.2.2.2 ≤ b) {W : Nat → Int32} {sd : Int32} {H : Heap} {p c v : Nat} {name : Int32} (hH : ws_I Γ b W sd H) (hv : iv (c + 12) W) (hp : p < 5) (hvv : v < 100) : mw_Cr l Γ mX3_houseActs 4 0 0 (ws_A b) [.ref b, .int (nI p), .int name, .int (nI 0), .int (nI v)] H none (ws_I Γ b (mo_word W 1 v) sd) := by
  obtain ⟨cu, hcu5, hcu⟩ := ml_c3 hv
  refine mw_ofG (P := pX3_houseActs) (by decide) (ws_As hb) oX3_houseActs (Nat.le_of_ble_eq_true rfl) ?_
  intro pg e0 sg mg below meth cd X hs
  refine mw_pre (I' := ws_I Γ b W sd) (fun H1 h1 => by rw [h1]; exact hH) ?_
  refine mw_steps X 1 (pc' := 1) (lv' := [(0, .ref b), (1, .int (nI p)), (2, .int name), (3, .int (nI 0)), (4, .int (nI v))]) (st' := [.int (nI 0)]) rfl ?_
  refine mw_tsIn X 0 rfl (by decide) 40 rfl (by decide) rfl rfl ?_
  refine mw_steps X 1 (pc' := 41) (lv' := [(0, .ref b), (1, .int (nI p)), (2, .int name), (3, .int (nI 0)), (4, .int (nI v))]) (st' := [.ref b]) rfl ?_
  refine mw_get X kf_X3_51.fl kc_3 rfl (v := .ref (b + 20)) (fun H h => ⟨_, h.1, rfl⟩) ?_
  refine mw_get X kf_X3_201 kc_0 rfl (v := .ref (b + 21)) (fun H h => ⟨_, h.2.2.2.2.2.2.2.2.2.2.2.1, rfl⟩) ?_
  refine mw_steps X 1 (pc' := 49) (lv' := [(0, .ref b), (1, .int (nI p)), (2, .int name), (3, .int (nI 0)), (4, .int (nI v))]) (st' := [.int (nI v), .ref (b + 21)]) rfl ?_
  refine mw_cV1v X kd_X1_add kv_X1_add kl_X3_73 (ci := 1) rfl rfl (Nat.le_of_ble_eq_true rfl) ⟨Nat.le_of_ble_eq_true rfl, Nat.le_of_ble_eq_true rfl⟩ ⟨Nat.le_of_ble_eq_true rfl, Nat.le_of_ble_eq_true rfl⟩ (ws_sub 21 (by omega)) (fun H h => ⟨h.o_words1, y12_add (k := v) hb h hvv⟩) ?_
  refine mw_steps X 3 (pc' := 55) (lv' := [(0, .ref b), (1, .int (nI p)), (2, .int name), (3, .int (nI 0)), (4, .int (nI v))]) (st' := [.ref b, .int (nI 1), .ref b]) rfl ?_
  refine mw_get X kf_X3_51.fl kc_3 rfl (v := .ref (b + 20)) (fun H h => ⟨_, h.1, rfl⟩) ?_
  refine mw_get X kf_X3_106 kc_0 rfl (v := .int (nI cu)) (fun H h => ⟨_, h.2.2.2.2.2.2.2.2.2.2.2.1, congrArg (fun z => some (Value.int z)) (by simp (disch := omega) only [pk_un]; exact hcu)⟩) ?_
  refine mw_steps X 2 (pc' := 63) (lv' := [(0, .ref b), (1, .int (nI p)), (2, .int name), (3, .int (nI 0)), (4, .int (nI v))]) (st' := [.ref b, .int (nI 5), .int (nI cu), .int (nI 1), .ref b]) rfl ?_
  refine mw_get X kf_X3_51.fl kc_3 rfl (v := .ref (b + 20)) (fun H h => ⟨_, h.1, rfl⟩) ?_
  refine mw_get X kf_X3_201 kc_0 rfl (v := .ref (b + 21)) (fun H h => ⟨_, h.2.2.2.2.2.2.2.2.2.2.2.1, rfl⟩) ?_
  refine mw_cV0r X kd_X1_inRow kv_X1_inRow kl_X3_204 (ci := 1) rfl rfl (Nat.le_of_ble_eq_true rfl) ⟨Nat.le_of_ble_eq_true rfl, Nat.le_of_ble_eq_true rfl⟩ ⟨Nat.le_of_ble_eq_true rfl, Nat.le_of_ble_eq_true rfl⟩ (ws_sub 21 (by omega)) (fun H h => ⟨h.o_words1, y12_inRow hb h⟩) ?_
  refine mw_cV4v X kd_X3_writes kv_X3_writes kl_X3_198 (ci := 3) rfl rfl (Nat.le_of_ble_eq_true rfl) ⟨Nat.le_of_ble_eq_true rfl, Nat.le_of_ble_eq_true rfl⟩ ⟨Nat.le_of_ble_eq_true rfl, Nat.le_of_ble_eq_true rfl⟩ (fun _ h => h) (fun H h => ⟨⟨_, h.1⟩, zw_goes1 hb h (iv_has hv (by omega) hvv).1 hcu5 (by omega)⟩) ?_
  refine mw_steps X 1 (pc' := 173) (lv' := [(0, .ref b), (1, .int (nI p)), (2, .int name), (3, .int (nI 0)), (4, .int (nI v))]) (st' := []) rfl ?_
  exact mw_vret X rfl rfl (fun H h => ⟨rfl, by rw [show mo_word W 1 v = mo_goes (upd W (127 + 100 * 1 + v) (nI 1)) 1 cu 5 (nI (mo_row (upd W (127 + 100 * 1 + v) (nI 1)) 1)) from by exact ml_wordC (by omega) hvv hcu hcu5]; exact h⟩)
set_option maxHeartbeats 4000000 in
set_option maxRecDepth 20000 in
theorem zw_act1 {l : Launch} {Γ : mw_C} {b : Nat} (hb : Γ.2.2.2 ≤ b) {W : Nat → Int32} {sd : Int32} {H : Heap} {p c : Nat} {name x : Int32} (hH : ws_I Γ b W sd H) (hv : iv (c + 12) W) (hp : p < 5) : mw_Cr l Γ mX3_houseActs 4 0 0 (ws_A b) [.ref b, .int (nI p), .int name, .int (nI 1), .int x] H none (ws_I Γ b (mo_goes W 1 p 2 x) sd) := by
  refine mw_ofG (P := pX3_houseActs) (by decide) (ws_As hb) oX3_houseActs (Nat.le_of_ble_eq_true rfl) ?_
  intro pg e0 sg mg below meth cd X hs
  refine mw_pre (I' := ws_I Γ b W sd) (fun H1 h1 => by rw [h1]; exact hH) ?_
  refine mw_steps X 1 (pc' := 1) (lv' := [(0, .ref b), (1, .int (nI p)), (2, .int name), (3, .int (nI 1)), (4, .int x)]) (st' := [.int (nI 1)]) rfl ?_
  refine mw_tsIn X 1 rfl (by decide) 78 rfl (by decide) rfl rfl ?_
  refine mw_steps X 5 (pc' := 84) (lv' := [(0, .ref b), (1, .int (nI p)), (2, .int name), (3, .int (nI 1)), (4, .int x)]) (st' := [.int x, .int (nI 2), .int (nI p), .int (nI 1), .ref b]) rfl ?_
  refine mw_cV4v X kd_X3_writes kv_X3_writes kl_X3_198 (ci := 3) rfl rfl (Nat.le_of_ble_eq_true rfl) ⟨Nat.le_of_ble_eq_true rfl, Nat.le_of_ble_eq_true rfl⟩ ⟨Nat.le_of_ble_eq_true rfl, Nat.le_of_ble_eq_true rfl⟩ (fun _ h => h) (fun H h => ⟨⟨_, h.1⟩, zw_goes1 hb h hv.1 hp (by omega)⟩) ?_
  refine mw_steps X 1 (pc' := 173) (lv' := [(0, .ref b), (1, .int (nI p)), (2, .int name), (3, .int (nI 1)), (4, .int x)]) (st' := []) rfl ?_
  exact mw_vret X rfl rfl (fun H h => ⟨rfl, by rw [show mo_goes W 1 p 2 x = mo_goes W 1 p 2 x from by rfl]; exact h⟩)
set_option maxHeartbeats 4000000 in
set_option maxRecDepth 20000 in
theorem zw_act2T {l : Launch} {Γ : mw_C} {b : Nat} (hb : Γ.2.2.2 ≤ b) {W : Nat → Int32} {sd : Int32} {H : Heap} {p c : Nat} {name x : Int32} (hH : ws_I Γ b W sd H) (hv : iv (c + 12) W) (hp : p < 5) (hf : mo_fa W 1 1 x < mo_n (W 13)) : mw_Cr l Γ mX3_houseActs 4 0 0 (ws_A b) [.ref b, .int (nI p), .int name, .int (nI 2), .int x] H none (ws_I Γ b (mo_prove W x) sd) := by
  obtain ⟨e2, pl, t2, he2, hpl, ht2, a4, hpp, a6⟩ := hv.2.2.2.2.1 _ hf
  refine mw_ofG (P := pX3_houseActs) (by decide) (ws_As hb) oX3_houseActs (Nat.le_of_ble_eq_true rfl) ?_
  intro pg e0 sg mg below meth cd X hs
  refine mw_pre (I' := ws_I Γ b W sd) (fun H1 h1 => by rw [h1]; exact hH) ?_
  refine mw_steps X 1 (pc' := 1) (lv' := [(0, .ref b), (1, .int (nI p)), (2, .int name), (3, .int (nI 2)), (4, .int x)]) (st' := [.int (nI 2)]) rfl ?_
  refine mw_tsIn X 2 rfl (by decide) 90 rfl (by decide) rfl rfl ?_
  refine mw_steps X 3 (pc' := 94) (lv' := [(0, .ref b), (1, .int (nI p)), (2, .int name), (3, .int (nI 2)), (4, .int x)]) (st' := [.int x, .int (nI 1), .ref b]) rfl ?_
  refine mw_cV2r X kd_X3_answered kv_X3_answered kl_X3_207 (ci := 3) rfl rfl (Nat.le_of_ble_eq_true rfl) ⟨Nat.le_of_ble_eq_true rfl, Nat.le_of_ble_eq_true rfl⟩ ⟨Nat.le_of_ble_eq_true rfl, Nat.le_of_ble_eq_true rfl⟩ (fun _ h => h) (fun H h => ⟨⟨_, h.1⟩, zw_ans1T hb h hv.1 hf⟩) ?_
  refine mw_top (y := nI pl) hpp ?_
  refine mw_steps X 2 (pc' := 100) (lv' := [(5, .int (nI pl)), (0, .ref b), (1, .int (nI p)), (2, .int name), (3, .int (nI 2)), (4, .int x)]) (st' := [.ref b]) rfl ?_
  refine mw_get X kf_X3_26.fl kc_3 rfl (v := .ref (b + 7)) (fun H h => ⟨_, h.1, rfl⟩) ?_
  refine mw_steps X 3 (pc' := 107) (lv' := [(5, .int (nI pl)), (0, .ref b), (1, .int (nI p)), (2, .int name), (3, .int (nI 2)), (4, .int x)]) (st' := [.int (nI 1), .int (nI 2), .int (nI pl), .ref (b + 7)]) rfl ?_
  refine mw_cV3v X kd_X2_put kv_X2_put kl_X3_69 (ci := 2) rfl rfl (Nat.le_of_ble_eq_true rfl) ⟨Nat.le_of_ble_eq_true rfl, Nat.le_of_ble_eq_true rfl⟩ ⟨Nat.le_of_ble_eq_true rfl, Nat.le_of_ble_eq_true rfl⟩ (ws_sub 7 (by omega)) (fun H h => ⟨h.o_places, y4_put2 hb h hpl⟩) ?_
  refine mw_steps X 2 (pc' := 113) (lv' := [(5, .int (nI pl)), (0, .ref b), (1, .int (nI p)), (2, .int name), (3, .int (nI 2)), (4, .int x)]) (st' := [.int (nI pl), .ref b]) rfl ?_
  refine mw_cV1v X kd_X3_letsOut kv_X3_letsOut kl_X3_189 (ci := 3) rfl rfl (Nat.le_of_ble_eq_true rfl) ⟨Nat.le_of_ble_eq_true rfl, Nat.le_of_ble_eq_true rfl⟩ ⟨Nat.le_of_ble_eq_true rfl, Nat.le_of_ble_eq_true rfl⟩ (fun _ h => h) (fun H h => ⟨⟨_, h.1⟩, zw_letOut hb h (c := c) (iv_proved (iv_rma hv hf) hpl) hpl⟩) ?_
  refine mw_steps X 1 (pc' := 173) (lv' := [(5, .int (nI pl)), (0, .ref b), (1, .int (nI p)), (2, .int name), (3, .int (nI 2)), (4, .int x)]) (st' := []) rfl ?_
  exact mw_vret X rfl rfl (fun H h => ⟨rfl, by rw [show mo_prove W x = mo_letOut (upd (mo_rm W 507 5 13 (mo_fa W 1 1 x)) (32 + pl) (nI 1)) pl from by exact ml_proveT rfl hf hpp hpl]; exact h⟩)
set_option maxHeartbeats 4000000 in
set_option maxRecDepth 20000 in
theorem zw_act2F {l : Launch} {Γ : mw_C} {b : Nat} (hb : Γ.2.2.2 ≤ b) {W : Nat → Int32} {sd : Int32} {H : Heap} {p c : Nat} {name x : Int32} (hH : ws_I Γ b W sd H) (hv : iv (c + 12) W) (hp : p < 5) (hf : ¬ mo_fa W 1 1 x < mo_n (W 13)) : mw_Cr l Γ mX3_houseActs 4 0 0 (ws_A b) [.ref b, .int (nI p), .int name, .int (nI 2), .int x] H none (ws_I Γ b (mo_prove W x) sd) := by
  refine mw_ofG (P := pX3_houseActs) (by decide) (ws_As hb) oX3_houseActs (Nat.le_of_ble_eq_true rfl) ?_
  intro pg e0 sg mg below meth cd X hs
  refine mw_pre (I' := ws_I Γ b W sd) (fun H1 h1 => by rw [h1]; exact hH) ?_
  refine mw_steps X 1 (pc' := 1) (lv' := [(0, .ref b), (1, .int (nI p)), (2, .int name), (3, .int (nI 2)), (4, .int x)]) (st' := [.int (nI 2)]) rfl ?_
  refine mw_tsIn X 2 rfl (by decide) 90 rfl (by decide) rfl rfl ?_
  refine mw_steps X 3 (pc' := 94) (lv' := [(0, .ref b), (1, .int (nI p)), (2, .int name), (3, .int (nI 2)), (4, .int x)]) (st' := [.int x, .int (nI 1), .ref b]) rfl ?_
  refine mw_cV2r X kd_X3_answered kv_X3_answered kl_X3_207 (ci := 3) rfl rfl (Nat.le_of_ble_eq_true rfl) ⟨Nat.le_of_ble_eq_true rfl, Nat.le_of_ble_eq_true rfl⟩ ⟨Nat.le_of_ble_eq_true rfl, Nat.le_of_ble_eq_true rfl⟩ (fun _ h => h) (fun H h => ⟨⟨_, h.1⟩, zw_ans1F hb h hv.1 hf⟩) ?_
  refine mw_steps X 2 (pc' := 100) (lv' := [(5, .int (-1)), (0, .ref b), (1, .int (nI p)), (2, .int name), (3, .int (nI 2)), (4, .int x)]) (st' := [.ref b]) rfl ?_
  refine mw_get X kf_X3_26.fl kc_3 rfl (v := .ref (b + 7)) (fun H h => ⟨_, h.1, rfl⟩) ?_
  refine mw_steps X 3 (pc' := 107) (lv' := [(5, .int (-1)), (0, .ref b), (1, .int (nI p)), (2, .int name), (3, .int (nI 2)), (4, .int x)]) (st' := [.int (nI 1), .int (nI 2), .int (-1), .ref (b + 7)]) rfl ?_
  refine mw_cV3v X kd_X2_put kv_X2_put kl_X3_69 (ci := 2) rfl rfl (Nat.le_of_ble_eq_true rfl) ⟨Nat.le_of_ble_eq_true rfl, Nat.le_of_ble_eq_true rfl⟩ ⟨Nat.le_of_ble_eq_true rfl, Nat.le_of_ble_eq_true rfl⟩ (ws_sub 7 (by omega)) (fun H h => ⟨h.o_places, y4_putN hb h⟩) ?_
  refine mw_steps X 2 (pc' := 113) (lv' := [(5, .int (-1)), (0, .ref b), (1, .int (nI p)), (2, .int name), (3, .int (nI 2)), (4, .int x)]) (st' := [.int (-1), .ref b]) rfl ?_
  refine mw_cV1v X kd_X3_letsOut kv_X3_letsOut kl_X3_189 (ci := 3) rfl rfl (Nat.le_of_ble_eq_true rfl) ⟨Nat.le_of_ble_eq_true rfl, Nat.le_of_ble_eq_true rfl⟩ ⟨Nat.le_of_ble_eq_true rfl, Nat.le_of_ble_eq_true rfl⟩ (fun _ h => h) (fun H h => ⟨⟨_, h.1⟩, zw_letOutN hb h hv⟩) ?_
  refine mw_steps X 1 (pc' := 173) (lv' := [(5, .int (-1)), (0, .ref b), (1, .int (nI p)), (2, .int name), (3, .int (nI 2)), (4, .int x)]) (st' := []) rfl ?_
  exact mw_vret X rfl rfl (fun H h => ⟨rfl, by rw [show mo_prove W x = W from by exact ml_proveF hf]; exact h⟩)
set_option maxHeartbeats 4000000 in
set_option maxRecDepth 20000 in
theorem zw_act3 {l : Launch} {Γ : mw_C} {b : Nat} (hb : Γ.2.2.2 ≤ b) {W : Nat → Int32} {sd : Int32} {H : Heap} {p c : Nat} {name x : Int32} (hH : ws_I Γ b W sd H) (hv : iv (c + 12) W) (hp : p < 5) : mw_Cr l Γ mX3_houseActs 4 0 0 (ws_A b) [.ref b, .int (nI p), .int name, .int (nI 3), .int x] H none (ws_I Γ b (W) sd) := by
  refine mw_ofG (P := pX3_houseActs) (by decide) (ws_As hb) oX3_houseActs (Nat.le_of_ble_eq_true rfl) ?_
  intro pg e0 sg mg below meth cd X hs
  refine mw_pre (I' := ws_I Γ b W sd) (fun H1 h1 => by rw [h1]; exact hH) ?_
  refine mw_steps X 1 (pc' := 1) (lv' := [(0, .ref b), (1, .int (nI p)), (2, .int name), (3, .int (nI 3)), (4, .int x)]) (st' := [.int (nI 3)]) rfl ?_
  refine mw_tsIn X 3 rfl (by decide) 173 rfl (by decide) rfl rfl ?_
  exact mw_vret X rfl rfl (fun H h => ⟨rfl, by rw [show W = W from by rfl]; exact h⟩)
set_option maxHeartbeats 4000000 in
set_option maxRecDepth 20000 in
theorem zw_act4O {l : Launch} {Γ : mw_C} {b : Nat} (hb : Γ.2.2.2 ≤ b) {W : Nat → Int32} {sd : Int32} {H : Heap} {p c : Nat} {name x : Int32} (hH : ws_I Γ b W sd H) (hv : iv (c + 12) W) (hp : p < 5) (ho : x = name) : mw_Cr l Γ mX3_houseActs 4 0 0 (ws_A b) [.ref b, .int (nI p), .int name, .int (nI 4), .int x] H none (ws_I Γ b (mo_retire W x name) sd) := by
  refine mw_ofG (P := pX3_houseActs) (by decide) (ws_As hb) oX3_houseActs (Nat.le_of_ble_eq_true rfl) ?_
  intro pg e0 sg mg below meth cd X hs
  refine mw_pre (I' := ws_I Γ b W sd) (fun H1 h1 => by rw [h1]; exact hH) ?_
  refine mw_steps X 1 (pc' := 1) (lv' := [(0, .ref b), (1, .int (nI p)), (2, .int name), (3, .int (nI 4)), (4, .int x)]) (st' := [.int (nI 4)]) rfl ?_
  refine mw_tsIn X 4 rfl (by decide) 119 rfl (by decide) rfl rfl ?_
  refine mw_steps X 2 (pc' := 122) (lv' := [(0, .ref b), (1, .int (nI p)), (2, .int name), (3, .int (nI 4)), (4, .int x)]) (st' := [.int name, .int x]) rfl ?_
  refine mw_icmp_ne X 129 rfl rfl (fun c122 => absurd ho c122) (fun c122 => ?_)
  refine mw_steps X 5 (pc' := 140) (lv' := [(6, .int (-1)), (0, .ref b), (1, .int (nI p)), (2, .int name), (3, .int (nI 4)), (4, .int x)]) (st' := [.int (-1), .int (-1)]) rfl ?_
  refine mw_icmp_eq X 173 rfl rfl (fun c140 => ?_) (fun c140 => absurd rfl c140)
  exact mw_vret X rfl rfl (fun H h => ⟨rfl, by rw [show mo_retire W x name = W from by exact ml_retire_f (fun q => q.2 ho)]; exact h⟩)
set_option maxHeartbeats 4000000 in
set_option maxRecDepth 20000 in
theorem zw_act4N {l : Launch} {Γ : mw_C} {b : Nat} (hb : Γ.2.2.2 ≤ b) {W : Nat → Int32} {sd : Int32} {H : Heap} {p c : Nat} {name x : Int32} (hH : ws_I Γ b W sd H) (hv : iv (c + 12) W) (hp : p < 5) (ho : ¬ x = name) (hl : mo_live W x = false) : mw_Cr l Γ mX3_houseActs 4 0 0 (ws_A b) [.ref b, .int (nI p), .int name, .int (nI 4), .int x] H none (ws_I Γ b (mo_retire W x name) sd) := by
  refine mw_ofG (P := pX3_houseActs) (by decide) (ws_As hb) oX3_houseActs (Nat.le_of_ble_eq_true rfl) ?_
  intro pg e0 sg mg below meth cd X hs
  refine mw_pre (I' := ws_I Γ b W sd) (fun H1 h1 => by rw [h1]; exact hH) ?_
  refine mw_steps X 1 (pc' := 1) (lv' := [(0, .ref b), (1, .int (nI p)), (2, .int name), (3, .int (nI 4)), (4, .int x)]) (st' := [.int (nI 4)]) rfl ?_
  refine mw_tsIn X 4 rfl (by decide) 119 rfl (by decide) rfl rfl ?_
  refine mw_steps X 2 (pc' := 122) (lv' := [(0, .ref b), (1, .int (nI p)), (2, .int name), (3, .int (nI 4)), (4, .int x)]) (st' := [.int name, .int x]) rfl ?_
  refine mw_icmp_ne X 129 rfl rfl (fun c122 => ?_) (fun c122 => absurd c122 ho)
  refine mw_steps X 2 (pc' := 132) (lv' := [(0, .ref b), (1, .int (nI p)), (2, .int name), (3, .int (nI 4)), (4, .int x)]) (st' := [.int x, .ref b]) rfl ?_
  refine mw_cV1r X kd_X3_replaces kv_X3_replaces kl_X3_210 (ci := 3) rfl rfl (Nat.le_of_ble_eq_true rfl) ⟨Nat.le_of_ble_eq_true rfl, Nat.le_of_ble_eq_true rfl⟩ ⟨Nat.le_of_ble_eq_true rfl, Nat.le_of_ble_eq_true rfl⟩ (fun _ h => h) (fun H h => ⟨⟨_, h.1⟩, zw_repN hb h hv hl⟩) ?_
  refine mw_steps X 3 (pc' := 140) (lv' := [(6, .int (-1)), (0, .ref b), (1, .int (nI p)), (2, .int name), (3, .int (nI 4)), (4, .int x)]) (st' := [.int (-1), .int (-1)]) rfl ?_
  refine mw_icmp_eq X 173 rfl rfl (fun c140 => ?_) (fun c140 => absurd rfl c140)
  exact mw_vret X rfl rfl (fun H h => ⟨rfl, by rw [show mo_retire W x name = W from by exact ml_retire_f (fun q => by rw [hl] at q; exact absurd q.1 (by decide))]; exact h⟩)
set_option maxHeartbeats 4000000 in
set_option maxRecDepth 20000 in
theorem zw_act4F {l : Launch} {Γ : mw_C} {b : Nat} (hb : Γ.2.2.2 ≤ b) {W : Nat → Int32} {sd : Int32} {H : Heap} {p c v : Nat} {name : Int32} (hH : ws_I Γ b W sd H) (hv : iv (c + 12) W) (hp : p < 5) {g : Nat} (ho : ¬ nI v = name) (hl : mo_live W (nI v) = true) (hj : v < 40) (hg : W 1 = nI g) (hg4 : g ≤ 40) (hgf : ¬ g < 40) : mw_Cr l Γ mX3_houseActs 4 0 0 (ws_A b) [.ref b, .int (nI p), .int name, .int (nI 4), .int (nI v)] H none (ws_I Γ b (mo_retire W (nI v) name) sd) := by
  refine mw_ofG (P := pX3_houseActs) (by decide) (ws_As hb) oX3_houseActs (Nat.le_of_ble_eq_true rfl) ?_
  intro pg e0 sg mg below meth cd X hs
  refine mw_pre (I' := ws_I Γ b W sd) (fun H1 h1 => by rw [h1]; exact hH) ?_
  refine mw_steps X 1 (pc' := 1) (lv' := [(0, .ref b), (1, .int (nI p)), (2, .int name), (3, .int (nI 4)), (4, .int (nI v))]) (st' := [.int (nI 4)]) rfl ?_
  refine mw_tsIn X 4 rfl (by decide) 119 rfl (by decide) rfl rfl ?_
  refine mw_steps X 2 (pc' := 122) (lv' := [(0, .ref b), (1, .int (nI p)), (2, .int name), (3, .int (nI 4)), (4, .int (nI v))]) (st' := [.int name, .int (nI v)]) rfl ?_
  refine mw_icmp_ne X 129 rfl rfl (fun c122 => ?_) (fun c122 => absurd c122 ho)
  refine mw_steps X 2 (pc' := 132) (lv' := [(0, .ref b), (1, .int (nI p)), (2, .int name), (3, .int (nI 4)), (4, .int (nI v))]) (st' := [.int (nI v), .ref b]) rfl ?_
  refine mw_cV1r X kd_X3_replaces kv_X3_replaces kl_X3_210 (ci := 3) rfl rfl (Nat.le_of_ble_eq_true rfl) ⟨Nat.le_of_ble_eq_true rfl, Nat.le_of_ble_eq_true rfl⟩ ⟨Nat.le_of_ble_eq_true rfl, Nat.le_of_ble_eq_true rfl⟩ (fun _ h => h) (fun H h => ⟨⟨_, h.1⟩, zw_repF hb h hv hl hj hg hg4 hgf⟩) ?_
  refine mw_steps X 3 (pc' := 140) (lv' := [(6, .int (-1)), (0, .ref b), (1, .int (nI p)), (2, .int name), (3, .int (nI 4)), (4, .int (nI v))]) (st' := [.int (-1), .int (-1)]) rfl ?_
  refine mw_icmp_eq X 173 rfl rfl (fun c140 => ?_) (fun c140 => absurd rfl c140)
  exact mw_vret X rfl rfl (fun H h => ⟨rfl, by rw [show mo_retire W (nI v) name = upd W (47 + v) (nI 0) from by exact ml_retire_full hl ho hj hg (by rw [hg, nI_ltI (by omega) (by omega)]; exact hgf)]; exact h⟩)
set_option maxHeartbeats 4000000 in
set_option maxRecDepth 20000 in
theorem zw_act4Y {l : Launch} {Γ : mw_C} {b : Nat} (hb : Γ.2.2.2 ≤ b) {W : Nat → Int32} {sd : Int32} {H : Heap} {p c v : Nat} {name : Int32} (hH : ws_I Γ b W sd H) (hv : iv (c + 12) W) (hp : p < 5) {g : Nat} (ho : ¬ nI v = name) (hl : mo_live W (nI v) = true) (hj : v < 40) (hg : W 1 = nI g) (hg4 : g ≤ 40) (hgf : g < 40) : mw_Cr l Γ mX3_houseActs 4 0 0 (ws_A b) [.ref b, .int (nI p), .int name, .int (nI 4), .int (nI v)] H none (ws_I Γ b (mo_retire W (nI v) name) sd) := by
  obtain ⟨cu, hcu5, hcu⟩ := ml_c3 hv
  have hcc : iv_c (upd (upd (upd W (47 + v) (nI 0)) 1 (nI g + nI 1)) (47 + g) (nI 1)) := hv.1.cg (fun j a b => by rw [pk_un (by omega), pk_un (by omega), pk_un (by omega)])
  refine mw_ofG (P := pX3_houseActs) (by decide) (ws_As hb) oX3_houseActs (Nat.le_of_ble_eq_true rfl) ?_
  intro pg e0 sg mg below meth cd X hs
  refine mw_pre (I' := ws_I Γ b W sd) (fun H1 h1 => by rw [h1]; exact hH) ?_
  refine mw_steps X 1 (pc' := 1) (lv' := [(0, .ref b), (1, .int (nI p)), (2, .int name), (3, .int (nI 4)), (4, .int (nI v))]) (st' := [.int (nI 4)]) rfl ?_
  refine mw_tsIn X 4 rfl (by decide) 119 rfl (by decide) rfl rfl ?_
  refine mw_steps X 2 (pc' := 122) (lv' := [(0, .ref b), (1, .int (nI p)), (2, .int name), (3, .int (nI 4)), (4, .int (nI v))]) (st' := [.int name, .int (nI v)]) rfl ?_
  refine mw_icmp_ne X 129 rfl rfl (fun c122 => ?_) (fun c122 => absurd c122 ho)
  refine mw_steps X 2 (pc' := 132) (lv' := [(0, .ref b), (1, .int (nI p)), (2, .int name), (3, .int (nI 4)), (4, .int (nI v))]) (st' := [.int (nI v), .ref b]) rfl ?_
  refine mw_cV1r X kd_X3_replaces kv_X3_replaces kl_X3_210 (ci := 3) rfl rfl (Nat.le_of_ble_eq_true rfl) ⟨Nat.le_of_ble_eq_true rfl, Nat.le_of_ble_eq_true rfl⟩ ⟨Nat.le_of_ble_eq_true rfl, Nat.le_of_ble_eq_true rfl⟩ (fun _ h => h) (fun H h => ⟨⟨_, h.1⟩, zw_repY hb h hv hl hj hg hg4 hgf⟩) ?_
  refine mw_steps X 3 (pc' := 140) (lv' := [(6, .int (nI g)), (0, .ref b), (1, .int (nI p)), (2, .int name), (3, .int (nI 4)), (4, .int (nI v))]) (st' := [.int (-1), .int (nI g)]) rfl ?_
  refine mw_icmp_eq X 173 rfl rfl (fun c140 => absurd c140 (fun q => nI_pos (n := g) (by omega) (by rw [q]; decide))) (fun c140 => ?_)
  refine mw_steps X 3 (pc' := 146) (lv' := [(6, .int (nI g)), (0, .ref b), (1, .int (nI p)), (2, .int name), (3, .int (nI 4)), (4, .int (nI v))]) (st' := [.ref b, .int (nI 1), .ref b]) rfl ?_
  refine mw_get X kf_X3_51.fl kc_3 rfl (v := .ref (b + 20)) (fun H h => ⟨_, h.1, rfl⟩) ?_
  refine mw_get X kf_X3_106 kc_0 rfl (v := .int (nI cu)) (fun H h => ⟨_, h.2.2.2.2.2.2.2.2.2.2.2.1, congrArg (fun z => some (Value.int z)) (by rw [pk_un (by omega), pk_un (by omega), pk_un (by omega)]; exact hcu)⟩) ?_
  refine mw_steps X 2 (pc' := 155) (lv' := [(6, .int (nI g)), (0, .ref b), (1, .int (nI p)), (2, .int name), (3, .int (nI 4)), (4, .int (nI v))]) (st' := [.int (nI g), .int (nI 3), .int (nI cu), .int (nI 1), .ref b]) rfl ?_
  refine mw_cV4v X kd_X3_writes kv_X3_writes kl_X3_198 (ci := 3) rfl rfl (Nat.le_of_ble_eq_true rfl) ⟨Nat.le_of_ble_eq_true rfl, Nat.le_of_ble_eq_true rfl⟩ ⟨Nat.le_of_ble_eq_true rfl, Nat.le_of_ble_eq_true rfl⟩ (fun _ h => h) (fun H h => ⟨⟨_, h.1⟩, zw_goes1 hb h hcc hcu5 (by omega)⟩) ?_
  refine mw_steps X 1 (pc' := 173) (lv' := [(6, .int (nI g)), (0, .ref b), (1, .int (nI p)), (2, .int name), (3, .int (nI 4)), (4, .int (nI v))]) (st' := []) rfl ?_
  exact mw_vret X rfl rfl (fun H h => ⟨rfl, by rw [show mo_retire W (nI v) name = mo_goes (upd (upd (upd W (47 + v) (nI 0)) 1 (nI g + nI 1)) (47 + g) (nI 1)) 1 cu 3 (nI g) from by rw [ml_retire_new hl ho hj hg hg4 hcu hcu5 (by rw [hg, nI_ltI (by omega) (by omega)]; exact hgf), ml_comm (W := upd W (47 + v) (nI 0)) (i := 47 + g) (k := 1) (by omega)]]; exact h⟩)
set_option maxHeartbeats 4000000 in
set_option maxRecDepth 20000 in
theorem zw_act5 {l : Launch} {Γ : mw_C} {b : Nat} (hb : Γ.2.2.2 ≤ b) {W : Nat → Int32} {sd : Int32} {H : Heap} {p c : Nat} {name x : Int32} (hH : ws_I Γ b W sd H) (hv : iv (c + 12) W) (hp : p < 5) : mw_Cr l Γ mX3_houseActs 4 0 0 (ws_A b) [.ref b, .int (nI p), .int name, .int (nI 5), .int x] H none (ws_I Γ b (mo_confirm W 1 x) sd) := by
  refine mw_ofG (P := pX3_houseActs) (by decide) (ws_As hb) oX3_houseActs (Nat.le_of_ble_eq_true rfl) ?_
  intro pg e0 sg mg below meth cd X hs
  refine mw_pre (I' := ws_I Γ b W sd) (fun H1 h1 => by rw [h1]; exact hH) ?_
  refine mw_steps X 1 (pc' := 1) (lv' := [(0, .ref b), (1, .int (nI p)), (2, .int name), (3, .int (nI 5)), (4, .int x)]) (st' := [.int (nI 5)]) rfl ?_
  refine mw_tsIn X 5 rfl (by decide) 161 rfl (by decide) rfl rfl ?_
  refine mw_steps X 1 (pc' := 162) (lv' := [(0, .ref b), (1, .int (nI p)), (2, .int name), (3, .int (nI 5)), (4, .int x)]) (st' := [.ref b]) rfl ?_
  refine mw_get X kf_X3_51.fl kc_3 rfl (v := .ref (b + 20)) (fun H h => ⟨_, h.1, rfl⟩) ?_
  refine mw_steps X 1 (pc' := 167) (lv' := [(0, .ref b), (1, .int (nI p)), (2, .int name), (3, .int (nI 5)), (4, .int x)]) (st' := [.int x, .ref (b + 20)]) rfl ?_
  refine mw_cV1v X kd_X0_confirm kv_X0_confirm kl_X3_213 (ci := 0) rfl rfl (Nat.le_of_ble_eq_true rfl) ⟨Nat.le_of_ble_eq_true rfl, Nat.le_of_ble_eq_true rfl⟩ ⟨Nat.le_of_ble_eq_true rfl, Nat.le_of_ble_eq_true rfl⟩ (fun _ h => h) (fun H h => ⟨h.o_house, ze_confirm1 hb h⟩) ?_
  refine mw_steps X 1 (pc' := 173) (lv' := [(0, .ref b), (1, .int (nI p)), (2, .int name), (3, .int (nI 5)), (4, .int x)]) (st' := []) rfl ?_
  exact mw_vret X rfl rfl (fun H h => ⟨rfl, by rw [show mo_confirm W 1 x = mo_confirm W 1 x from by rfl]; exact h⟩)
theorem zw_act {l : Launch} {Γ : mw_C} {b : Nat} (hb : Γ.2.2.2 ≤ b) {W : Nat → Int32} {sd : Int32} {H : Heap} {p k c : Nat} {name x : Int32} (hH : ws_I Γ b W sd H) (hv : iv (c + 12) W) (hp : p < 5) (hk : k < 6) (hx : iv_v 0 k x) : mw_Cr l Γ mX3_houseActs 4 0 0 (ws_A b) [.ref b, .int (nI p), .int name, .int (nI k), .int x] H none (ws_I Γ b (mo_act W p k name x) sd) := by
  rcases (show k = 0 ∨ k = 1 ∨ k = 2 ∨ k = 3 ∨ k = 4 ∨ k = 5 by omega) with rfl | rfl | rfl | rfl | rfl | rfl
  · obtain ⟨v, hv2, rfl⟩ := hx.1 rfl
    rw [ml_actn (by omega), ml_hb0, ml_n (by omega)]
    exact zw_act0 hb hH hv hp hv2
  · rw [ml_act1]
    exact zw_act1 hb hH hv hp
  · rw [ml_actn (by omega), ml_hb2]
    by_cases hf : mo_fa W 1 1 x < mo_n (W 13)
    · exact zw_act2T hb hH hv hp hf
    · exact zw_act2F hb hH hv hp hf
  · rw [ml_actn (by omega), ml_hb3]
    exact zw_act3 hb hH hv hp
  · rw [ml_actn (by omega), ml_hb4]
    by_cases ho : x = name
    · exact zw_act4O hb hH hv hp ho
    · cases hl : mo_live W x with
      | false => exact zw_act4N hb hH hv hp ho hl
      | true =>
        obtain ⟨h1, h2, h3, h4, h5⟩ := ml_live hv hl
        obtain ⟨v, hv2⟩ : ∃ v, v = mo_n x := ⟨_, rfl⟩
        rw [← hv2] at h1 h2
        subst h2
        by_cases hgf : mo_n (W 1) < 40
        · exact zw_act4Y hb hH hv hp ho hl (by omega) h4 h3 hgf
        · exact zw_act4F hb hH hv hp ho hl (by omega) h4 h3 hgf
  · rw [ml_actn (by omega), ml_hb5]
    exact zw_act5 hb hH hv hp
set_option maxHeartbeats 4000000 in
set_option maxRecDepth 20000 in
theorem zw_house0 {l : Launch} {Γ : mw_C} {b : Nat} (hb : Γ.2.2.2 ≤ b) {W : Nat → Int32} {sd : Int32} {H : Heap} {p y c : Nat} {name x : Int32} (hH : ws_I Γ b W sd H) (hv : iv (c + 25) W) (hp : p < 5) (hy : y < 32768) (hvx : iv_v 0 0 x) : mw_Cr l Γ mX3_houseTakes 5 0 0 (ws_A b) [.ref b, .int (nI p), .int name, .int (nI y), .int (nI 0), .int x] H (some (.int (nI (mo_houseWhy W name y)))) (ws_I Γ b (mo_house W p name y 0 x) sd) := by
  obtain ⟨G, hG⟩ : ∃ G, G = mo_houseGot W p 0 y := ⟨_, rfl⟩
  have hvG : iv (c + 25) G := by rw [hG]; exact iv_got hv hp
  obtain ⟨N, hN⟩ : ∃ N, N = mo_new G p 0 y := ⟨_, rfl⟩
  have hvN : iv (c + 24) N := by rw [hN]; exact iv_new (c := c + 24) hvG hp
  have hvF : iv (c + 25) (mo_folS G p 0 y) := iv_folS hvG hp
  have hvB : iv (c + 12) (mo_houseBy N p 0 name x) := iv_houseBy (c := c + 12) hvN hp (by omega) hvx
  refine mw_ofG (P := pX3_houseTakes) (by decide) (ws_As hb) oX3_houseTakes (Nat.le_of_ble_eq_true rfl) ?_
  intro pg e0 sg mg below meth cd X hs
  refine mw_pre (I' := ws_I Γ b W sd) (fun H1 h1 => by rw [h1]; exact hH) ?_
  refine mw_steps X 1 (pc' := 1) (lv' := [(0, .ref b), (1, .int (nI p)), (2, .int name), (3, .int (nI y)), (4, .int (nI 0)), (5, .int x)]) (st' := [.ref b]) rfl ?_
  refine mw_get X kf_X3_34.fl kc_3 rfl (v := .ref (b + 9)) (fun H h => ⟨_, h.1, rfl⟩) ?_
  refine mw_steps X 1 (pc' := 5) (lv' := [(0, .ref b), (1, .int (nI p)), (2, .int name), (3, .int (nI y)), (4, .int (nI 0)), (5, .int x)]) (st' := [.int name, .ref (b + 9)]) rfl ?_
  refine mw_cV1r X kd_X1_has kv_X1_has kl_X3_173 (ci := 1) rfl rfl (Nat.le_of_ble_eq_true rfl) ⟨Nat.le_of_ble_eq_true rfl, Nat.le_of_ble_eq_true rfl⟩ ⟨Nat.le_of_ble_eq_true rfl, Nat.le_of_ble_eq_true rfl⟩ (ws_sub 9 (by omega)) (fun H h => ⟨h.o_live, y5_has hb h⟩) ?_
  refine mw_top (y := mo_b (mo_live W name)) (congrArg mo_b (ml_liveC hv)) ?_
  refine mw_if_ne X 13 rfl rfl (fun c8 => ?_) (fun c8 => ?_)
  · refine mw_steps X 1 (pc' := 14) (lv' := [(0, .ref b), (1, .int (nI p)), (2, .int name), (3, .int (nI y)), (4, .int (nI 0)), (5, .int x)]) (st' := [.ref b]) rfl ?_
    refine mw_get X kf_X3_51.fl kc_3 rfl (v := .ref (b + 20)) (fun H h => ⟨_, h.1, rfl⟩) ?_
    refine mw_get X kf_X3_176 kc_0 rfl (v := .ref (b + 23)) (fun H h => ⟨_, h.2.2.2.2.2.2.2.2.2.2.2.1, rfl⟩) ?_
    refine mw_steps X 1 (pc' := 21) (lv' := [(0, .ref b), (1, .int (nI p)), (2, .int name), (3, .int (nI y)), (4, .int (nI 0)), (5, .int x)]) (st' := [.int (nI y), .ref (b + 23)]) rfl ?_
    refine mw_cV1r X kd_X1_has kv_X1_has kl_X3_173 (ci := 1) rfl rfl (Nat.le_of_ble_eq_true rfl) ⟨Nat.le_of_ble_eq_true rfl, Nat.le_of_ble_eq_true rfl⟩ ⟨Nat.le_of_ble_eq_true rfl, Nat.le_of_ble_eq_true rfl⟩ (ws_sub 23 (by omega)) (fun H h => ⟨h.o_taken1, y13_has hb h⟩) ?_
    refine mw_top (y := mo_b (mo_bit W 1 y)) (by rw [mo_bl_n hy (by omega), ml_n (by omega), Bool.true_and]) ?_
    refine mw_if_eq X 29 rfl rfl (fun c24 => ?_) (fun c24 => ?_)
    · refine mw_steps X 1 (pc' := 30) (lv' := [(0, .ref b), (1, .int (nI p)), (2, .int name), (3, .int (nI y)), (4, .int (nI 0)), (5, .int x)]) (st' := [.ref b]) rfl ?_
      refine mw_get X kf_X3_51.fl kc_3 rfl (v := .ref (b + 20)) (fun H h => ⟨_, h.1, rfl⟩) ?_
      refine mw_get X kf_X3_176 kc_0 rfl (v := .ref (b + 23)) (fun H h => ⟨_, h.2.2.2.2.2.2.2.2.2.2.2.1, rfl⟩) ?_
      refine mw_steps X 1 (pc' := 37) (lv' := [(0, .ref b), (1, .int (nI p)), (2, .int name), (3, .int (nI y)), (4, .int (nI 0)), (5, .int x)]) (st' := [.int (nI y), .ref (b + 23)]) rfl ?_
      refine mw_cV1v X kd_X1_add kv_X1_add kl_X3_73 (ci := 1) rfl rfl (Nat.le_of_ble_eq_true rfl) ⟨Nat.le_of_ble_eq_true rfl, Nat.le_of_ble_eq_true rfl⟩ ⟨Nat.le_of_ble_eq_true rfl, Nat.le_of_ble_eq_true rfl⟩ (ws_sub 23 (by omega)) (fun H h => ⟨h.o_taken1, y13_add (k := y) hb h hy⟩) ?_
      refine mw_steps X 1 (pc' := 41) (lv' := [(0, .ref b), (1, .int (nI p)), (2, .int name), (3, .int (nI y)), (4, .int (nI 0)), (5, .int x)]) (st' := [.ref b]) rfl ?_
      refine mw_get X kf_X3_26.fl kc_3 rfl (v := .ref (b + 7)) (fun H h => ⟨_, h.1, rfl⟩) ?_
      refine mw_steps X 3 (pc' := 47) (lv' := [(0, .ref b), (1, .int (nI p)), (2, .int name), (3, .int (nI y)), (4, .int (nI 0)), (5, .int x)]) (st' := [.ref b, .int (nI 3), .int (nI p), .ref (b + 7)]) rfl ?_
      refine mw_get X kf_X3_26.fl kc_3 rfl (v := .ref (b + 7)) (fun H h => ⟨_, h.1, rfl⟩) ?_
      refine mw_steps X 2 (pc' := 52) (lv' := [(0, .ref b), (1, .int (nI p)), (2, .int name), (3, .int (nI y)), (4, .int (nI 0)), (5, .int x)]) (st' := [.int (nI 3), .int (nI p), .ref (b + 7), .int (nI 3), .int (nI p), .ref (b + 7)]) rfl ?_
      refine mw_cV2r X kd_X2_at kv_X2_at kl_X3_98 (ci := 2) rfl rfl (Nat.le_of_ble_eq_true rfl) ⟨Nat.le_of_ble_eq_true rfl, Nat.le_of_ble_eq_true rfl⟩ ⟨Nat.le_of_ble_eq_true rfl, Nat.le_of_ble_eq_true rfl⟩ (ws_sub 7 (by omega)) (fun H h => ⟨h.o_places, y4_at3 hb h hp⟩) ?_
      refine mw_top (y := W (37 + p)) (ml_note_out (by omega)) ?_
      refine mw_steps X 1 (pc' := 57) (lv' := [(0, .ref b), (1, .int (nI p)), (2, .int name), (3, .int (nI y)), (4, .int (nI 0)), (5, .int x)]) (st' := [.int (nI 0), .int (W (37 + p)), .int (nI 3), .int (nI p), .ref (b + 7)]) rfl ?_
      refine mw_cS1r X kd_X3_sizeOf ks_X3_sizeOf kl_X3_149 rfl (Nat.le_of_ble_eq_true rfl) ⟨Nat.le_of_ble_eq_true rfl, Nat.le_of_ble_eq_true rfl⟩ ⟨Nat.le_of_ble_eq_true rfl, Nat.le_of_ble_eq_true rfl⟩ (fun _ h => h) (fun H h => zw_sizeOf hb (k := 0) (by omega) h) ?_
      refine mw_steps X 1 (pc' := 61) (lv' := [(0, .ref b), (1, .int (nI p)), (2, .int name), (3, .int (nI y)), (4, .int (nI 0)), (5, .int x)]) (st' := [.int ((W (37 + p)) + (mw_sz 0)), .int (nI 3), .int (nI p), .ref (b + 7)]) rfl ?_
      refine mw_cV3v X kd_X2_put kv_X2_put kl_X3_69 (ci := 2) rfl rfl (Nat.le_of_ble_eq_true rfl) ⟨Nat.le_of_ble_eq_true rfl, Nat.le_of_ble_eq_true rfl⟩ ⟨Nat.le_of_ble_eq_true rfl, Nat.le_of_ble_eq_true rfl⟩ (ws_sub 7 (by omega)) (fun H h => ⟨h.o_places, y4_put3 hb h hp⟩) ?_
      rw [show upd (mo_note W 1 y) (37 + p) ((W (37 + p)) + (mw_sz 0)) = G from hG.symm]
      refine mw_steps X 4 (pc' := 69) (lv' := [(0, .ref b), (1, .int (nI p)), (2, .int name), (3, .int (nI y)), (4, .int (nI 0)), (5, .int x)]) (st' := [.int (nI 0), .int (nI y), .int (nI p), .ref b]) rfl ?_
      refine mw_cV3r X kd_X3_houseFollows kv_X3_houseFollows kl_X3_179 (ci := 3) rfl rfl (Nat.le_of_ble_eq_true rfl) ⟨Nat.le_of_ble_eq_true rfl, Nat.le_of_ble_eq_true rfl⟩ ⟨Nat.le_of_ble_eq_true rfl, Nat.le_of_ble_eq_true rfl⟩ (fun _ h => h) (fun H h => ⟨⟨_, h.1⟩, zw_fol0 hb h hvG hp⟩) ?_
      refine mw_if_eq X 80 rfl rfl (fun c72 => ?_) (fun c72 => ?_)
      · refine mw_steps X 5 (pc' := 87) (lv' := [(0, .ref b), (1, .int (nI p)), (2, .int name), (3, .int (nI y)), (4, .int (nI 0)), (5, .int x)]) (st' := [.int x, .int (nI 0), .int name, .int (nI p), .ref b]) rfl ?_
        rw [show mo_folS G p 0 y = N from by rw [hN, ml_fol, if_neg (by rw [mo_b_z c72]; decide)]]
        have hvA : iv (c + 12) (mo_act N p 0 name x) := by rw [ml_actn (by omega)]; exact hvB
        refine mw_cV4v X kd_X3_houseActs kv_X3_houseActs kl_X3_186 (ci := 3) rfl rfl (Nat.le_of_ble_eq_true rfl) ⟨Nat.le_of_ble_eq_true rfl, Nat.le_of_ble_eq_true rfl⟩ ⟨Nat.le_of_ble_eq_true rfl, Nat.le_of_ble_eq_true rfl⟩ (fun _ h => h) (fun H h => ⟨⟨_, h.1⟩, zw_act hb h (c := c + 12) hvN hp (by omega) hvx⟩) ?_
        rw [show mo_act N p 0 name x = mo_houseBy N p 0 name x from by exact ml_actn (by omega)]
        refine mw_steps X 2 (pc' := 93) (lv' := [(0, .ref b), (1, .int (nI p)), (2, .int name), (3, .int (nI y)), (4, .int (nI 0)), (5, .int x)]) (st' := [.int (nI 1), .int (nI 0)]) rfl ?_
        refine mw_icmp_ne X 101 rfl rfl (fun c93 => ?_) (fun c93 => absurd c93 (by decide))
        refine mw_steps X 2 (pc' := 103) (lv' := [(0, .ref b), (1, .int (nI p)), (2, .int name), (3, .int (nI y)), (4, .int (nI 0)), (5, .int x)]) (st' := [.int (nI p), .ref b]) rfl ?_
        refine mw_cV1v X kd_X3_letsOut kv_X3_letsOut kl_X3_189 (ci := 3) rfl rfl (Nat.le_of_ble_eq_true rfl) ⟨Nat.le_of_ble_eq_true rfl, Nat.le_of_ble_eq_true rfl⟩ ⟨Nat.le_of_ble_eq_true rfl, Nat.le_of_ble_eq_true rfl⟩ (fun _ h => h) (fun H h => ⟨⟨_, h.1⟩, zw_letOut hb h (c := c) hvB hp⟩) ?_
        refine mw_steps X 1 (pc' := 107) (lv' := [(0, .ref b), (1, .int (nI p)), (2, .int name), (3, .int (nI y)), (4, .int (nI 0)), (5, .int x)]) (st' := [.int (nI 0)]) rfl ?_
        have hq : mo_houseWhy W name y = 0 ∧ mo_house W p name y 0 x = mo_letOut (mo_houseBy N p 0 name x) p := (by have := ml_house_0 (W := W) (p := p) (y := y) (k := 0) (name := name) (x := x) (mo_b_nz c8) (mo_b_z c24); rw [← hG, ← hN] at this; exact this)
        exact mw_iret X rfl rfl (fun H h => ⟨by rw [hq.1], by rw [hq.2]; exact h⟩)
      · refine mw_steps X 2 (pc' := 77) (lv' := [(0, .ref b), (1, .int (nI p)), (2, .int name), (3, .int (nI y)), (4, .int (nI 0)), (5, .int x)]) (st' := [.int (nI p), .ref b]) rfl ?_
        refine mw_cV1v X kd_X3_houseDoubts kv_X3_houseDoubts kl_X3_183 (ci := 3) rfl rfl (Nat.le_of_ble_eq_true rfl) ⟨Nat.le_of_ble_eq_true rfl, Nat.le_of_ble_eq_true rfl⟩ ⟨Nat.le_of_ble_eq_true rfl, Nat.le_of_ble_eq_true rfl⟩ (fun _ h => h) (fun H h => ⟨⟨_, h.1⟩, zw_once hb h hvF hp⟩) ?_
        refine mw_steps X 5 (pc' := 87) (lv' := [(0, .ref b), (1, .int (nI p)), (2, .int name), (3, .int (nI y)), (4, .int (nI 0)), (5, .int x)]) (st' := [.int x, .int (nI 0), .int name, .int (nI p), .ref b]) rfl ?_
        rw [show mo_once (mo_folS G p 0 y) p = N from by rw [hN, ml_fol, if_pos (mo_b_nz c72)]]
        have hvA : iv (c + 12) (mo_act N p 0 name x) := by rw [ml_actn (by omega)]; exact hvB
        refine mw_cV4v X kd_X3_houseActs kv_X3_houseActs kl_X3_186 (ci := 3) rfl rfl (Nat.le_of_ble_eq_true rfl) ⟨Nat.le_of_ble_eq_true rfl, Nat.le_of_ble_eq_true rfl⟩ ⟨Nat.le_of_ble_eq_true rfl, Nat.le_of_ble_eq_true rfl⟩ (fun _ h => h) (fun H h => ⟨⟨_, h.1⟩, zw_act hb h (c := c + 12) hvN hp (by omega) hvx⟩) ?_
        rw [show mo_act N p 0 name x = mo_houseBy N p 0 name x from by exact ml_actn (by omega)]
        refine mw_steps X 2 (pc' := 93) (lv' := [(0, .ref b), (1, .int (nI p)), (2, .int name), (3, .int (nI y)), (4, .int (nI 0)), (5, .int x)]) (st' := [.int (nI 1), .int (nI 0)]) rfl ?_
        refine mw_icmp_ne X 101 rfl rfl (fun c93 => ?_) (fun c93 => absurd c93 (by decide))
        refine mw_steps X 2 (pc' := 103) (lv' := [(0, .ref b), (1, .int (nI p)), (2, .int name), (3, .int (nI y)), (4, .int (nI 0)), (5, .int x)]) (st' := [.int (nI p), .ref b]) rfl ?_
        refine mw_cV1v X kd_X3_letsOut kv_X3_letsOut kl_X3_189 (ci := 3) rfl rfl (Nat.le_of_ble_eq_true rfl) ⟨Nat.le_of_ble_eq_true rfl, Nat.le_of_ble_eq_true rfl⟩ ⟨Nat.le_of_ble_eq_true rfl, Nat.le_of_ble_eq_true rfl⟩ (fun _ h => h) (fun H h => ⟨⟨_, h.1⟩, zw_letOut hb h (c := c) hvB hp⟩) ?_
        refine mw_steps X 1 (pc' := 107) (lv' := [(0, .ref b), (1, .int (nI p)), (2, .int name), (3, .int (nI y)), (4, .int (nI 0)), (5, .int x)]) (st' := [.int (nI 0)]) rfl ?_
        have hq : mo_houseWhy W name y = 0 ∧ mo_house W p name y 0 x = mo_letOut (mo_houseBy N p 0 name x) p := (by have := ml_house_0 (W := W) (p := p) (y := y) (k := 0) (name := name) (x := x) (mo_b_nz c8) (mo_b_z c24); rw [← hG, ← hN] at this; exact this)
        exact mw_iret X rfl rfl (fun H h => ⟨by rw [hq.1], by rw [hq.2]; exact h⟩)
    · refine mw_steps X 1 (pc' := 28) (lv' := [(0, .ref b), (1, .int (nI p)), (2, .int name), (3, .int (nI y)), (4, .int (nI 0)), (5, .int x)]) (st' := [.int (nI 3)]) rfl ?_
      have hq : mo_houseWhy W name y = 3 ∧ mo_house W p name y 0 x = W := ml_house_3 (mo_b_nz c8) (mo_b_nz c24)
      exact mw_iret X rfl rfl (fun H h => ⟨by rw [hq.1], by rw [hq.2]; exact h⟩)
  · refine mw_steps X 1 (pc' := 12) (lv' := [(0, .ref b), (1, .int (nI p)), (2, .int name), (3, .int (nI y)), (4, .int (nI 0)), (5, .int x)]) (st' := [.int (nI 1)]) rfl ?_
    have hq : mo_houseWhy W name y = 1 ∧ mo_house W p name y 0 x = W := ml_house_1 (mo_b_z c8)
    exact mw_iret X rfl rfl (fun H h => ⟨by rw [hq.1], by rw [hq.2]; exact h⟩)
set_option maxHeartbeats 4000000 in
set_option maxRecDepth 20000 in
theorem zw_house1 {l : Launch} {Γ : mw_C} {b : Nat} (hb : Γ.2.2.2 ≤ b) {W : Nat → Int32} {sd : Int32} {H : Heap} {p y c : Nat} {name x : Int32} (hH : ws_I Γ b W sd H) (hv : iv (c + 25) W) (hp : p < 5) (hy : y < 32768) (hvx : iv_v 0 1 x) : mw_Cr l Γ mX3_houseTakes 5 0 0 (ws_A b) [.ref b, .int (nI p), .int name, .int (nI y), .int (nI 1), .int x] H (some (.int (nI (mo_houseWhy W name y)))) (ws_I Γ b (mo_house W p name y 1 x) sd) := by
  obtain ⟨G, hG⟩ : ∃ G, G = mo_houseGot W p 1 y := ⟨_, rfl⟩
  have hvG : iv (c + 25) G := by rw [hG]; exact iv_got hv hp
  obtain ⟨N, hN⟩ : ∃ N, N = mo_new G p 1 y := ⟨_, rfl⟩
  have hvN : iv (c + 24) N := by rw [hN]; exact iv_new (c := c + 24) hvG hp
  have hvF : iv (c + 25) (mo_folS G p 1 y) := iv_folS hvG hp
  have hvB : iv (c + 12) (mo_houseBy N p 1 name x) := iv_houseBy (c := c + 12) hvN hp (by omega) hvx
  refine mw_ofG (P := pX3_houseTakes) (by decide) (ws_As hb) oX3_houseTakes (Nat.le_of_ble_eq_true rfl) ?_
  intro pg e0 sg mg below meth cd X hs
  refine mw_pre (I' := ws_I Γ b W sd) (fun H1 h1 => by rw [h1]; exact hH) ?_
  refine mw_steps X 1 (pc' := 1) (lv' := [(0, .ref b), (1, .int (nI p)), (2, .int name), (3, .int (nI y)), (4, .int (nI 1)), (5, .int x)]) (st' := [.ref b]) rfl ?_
  refine mw_get X kf_X3_34.fl kc_3 rfl (v := .ref (b + 9)) (fun H h => ⟨_, h.1, rfl⟩) ?_
  refine mw_steps X 1 (pc' := 5) (lv' := [(0, .ref b), (1, .int (nI p)), (2, .int name), (3, .int (nI y)), (4, .int (nI 1)), (5, .int x)]) (st' := [.int name, .ref (b + 9)]) rfl ?_
  refine mw_cV1r X kd_X1_has kv_X1_has kl_X3_173 (ci := 1) rfl rfl (Nat.le_of_ble_eq_true rfl) ⟨Nat.le_of_ble_eq_true rfl, Nat.le_of_ble_eq_true rfl⟩ ⟨Nat.le_of_ble_eq_true rfl, Nat.le_of_ble_eq_true rfl⟩ (ws_sub 9 (by omega)) (fun H h => ⟨h.o_live, y5_has hb h⟩) ?_
  refine mw_top (y := mo_b (mo_live W name)) (congrArg mo_b (ml_liveC hv)) ?_
  refine mw_if_ne X 13 rfl rfl (fun c8 => ?_) (fun c8 => ?_)
  · refine mw_steps X 1 (pc' := 14) (lv' := [(0, .ref b), (1, .int (nI p)), (2, .int name), (3, .int (nI y)), (4, .int (nI 1)), (5, .int x)]) (st' := [.ref b]) rfl ?_
    refine mw_get X kf_X3_51.fl kc_3 rfl (v := .ref (b + 20)) (fun H h => ⟨_, h.1, rfl⟩) ?_
    refine mw_get X kf_X3_176 kc_0 rfl (v := .ref (b + 23)) (fun H h => ⟨_, h.2.2.2.2.2.2.2.2.2.2.2.1, rfl⟩) ?_
    refine mw_steps X 1 (pc' := 21) (lv' := [(0, .ref b), (1, .int (nI p)), (2, .int name), (3, .int (nI y)), (4, .int (nI 1)), (5, .int x)]) (st' := [.int (nI y), .ref (b + 23)]) rfl ?_
    refine mw_cV1r X kd_X1_has kv_X1_has kl_X3_173 (ci := 1) rfl rfl (Nat.le_of_ble_eq_true rfl) ⟨Nat.le_of_ble_eq_true rfl, Nat.le_of_ble_eq_true rfl⟩ ⟨Nat.le_of_ble_eq_true rfl, Nat.le_of_ble_eq_true rfl⟩ (ws_sub 23 (by omega)) (fun H h => ⟨h.o_taken1, y13_has hb h⟩) ?_
    refine mw_top (y := mo_b (mo_bit W 1 y)) (by rw [mo_bl_n hy (by omega), ml_n (by omega), Bool.true_and]) ?_
    refine mw_if_eq X 29 rfl rfl (fun c24 => ?_) (fun c24 => ?_)
    · refine mw_steps X 1 (pc' := 30) (lv' := [(0, .ref b), (1, .int (nI p)), (2, .int name), (3, .int (nI y)), (4, .int (nI 1)), (5, .int x)]) (st' := [.ref b]) rfl ?_
      refine mw_get X kf_X3_51.fl kc_3 rfl (v := .ref (b + 20)) (fun H h => ⟨_, h.1, rfl⟩) ?_
      refine mw_get X kf_X3_176 kc_0 rfl (v := .ref (b + 23)) (fun H h => ⟨_, h.2.2.2.2.2.2.2.2.2.2.2.1, rfl⟩) ?_
      refine mw_steps X 1 (pc' := 37) (lv' := [(0, .ref b), (1, .int (nI p)), (2, .int name), (3, .int (nI y)), (4, .int (nI 1)), (5, .int x)]) (st' := [.int (nI y), .ref (b + 23)]) rfl ?_
      refine mw_cV1v X kd_X1_add kv_X1_add kl_X3_73 (ci := 1) rfl rfl (Nat.le_of_ble_eq_true rfl) ⟨Nat.le_of_ble_eq_true rfl, Nat.le_of_ble_eq_true rfl⟩ ⟨Nat.le_of_ble_eq_true rfl, Nat.le_of_ble_eq_true rfl⟩ (ws_sub 23 (by omega)) (fun H h => ⟨h.o_taken1, y13_add (k := y) hb h hy⟩) ?_
      refine mw_steps X 1 (pc' := 41) (lv' := [(0, .ref b), (1, .int (nI p)), (2, .int name), (3, .int (nI y)), (4, .int (nI 1)), (5, .int x)]) (st' := [.ref b]) rfl ?_
      refine mw_get X kf_X3_26.fl kc_3 rfl (v := .ref (b + 7)) (fun H h => ⟨_, h.1, rfl⟩) ?_
      refine mw_steps X 3 (pc' := 47) (lv' := [(0, .ref b), (1, .int (nI p)), (2, .int name), (3, .int (nI y)), (4, .int (nI 1)), (5, .int x)]) (st' := [.ref b, .int (nI 3), .int (nI p), .ref (b + 7)]) rfl ?_
      refine mw_get X kf_X3_26.fl kc_3 rfl (v := .ref (b + 7)) (fun H h => ⟨_, h.1, rfl⟩) ?_
      refine mw_steps X 2 (pc' := 52) (lv' := [(0, .ref b), (1, .int (nI p)), (2, .int name), (3, .int (nI y)), (4, .int (nI 1)), (5, .int x)]) (st' := [.int (nI 3), .int (nI p), .ref (b + 7), .int (nI 3), .int (nI p), .ref (b + 7)]) rfl ?_
      refine mw_cV2r X kd_X2_at kv_X2_at kl_X3_98 (ci := 2) rfl rfl (Nat.le_of_ble_eq_true rfl) ⟨Nat.le_of_ble_eq_true rfl, Nat.le_of_ble_eq_true rfl⟩ ⟨Nat.le_of_ble_eq_true rfl, Nat.le_of_ble_eq_true rfl⟩ (ws_sub 7 (by omega)) (fun H h => ⟨h.o_places, y4_at3 hb h hp⟩) ?_
      refine mw_top (y := W (37 + p)) (ml_note_out (by omega)) ?_
      refine mw_steps X 1 (pc' := 57) (lv' := [(0, .ref b), (1, .int (nI p)), (2, .int name), (3, .int (nI y)), (4, .int (nI 1)), (5, .int x)]) (st' := [.int (nI 1), .int (W (37 + p)), .int (nI 3), .int (nI p), .ref (b + 7)]) rfl ?_
      refine mw_cS1r X kd_X3_sizeOf ks_X3_sizeOf kl_X3_149 rfl (Nat.le_of_ble_eq_true rfl) ⟨Nat.le_of_ble_eq_true rfl, Nat.le_of_ble_eq_true rfl⟩ ⟨Nat.le_of_ble_eq_true rfl, Nat.le_of_ble_eq_true rfl⟩ (fun _ h => h) (fun H h => zw_sizeOf hb (k := 1) (by omega) h) ?_
      refine mw_steps X 1 (pc' := 61) (lv' := [(0, .ref b), (1, .int (nI p)), (2, .int name), (3, .int (nI y)), (4, .int (nI 1)), (5, .int x)]) (st' := [.int ((W (37 + p)) + (mw_sz 1)), .int (nI 3), .int (nI p), .ref (b + 7)]) rfl ?_
      refine mw_cV3v X kd_X2_put kv_X2_put kl_X3_69 (ci := 2) rfl rfl (Nat.le_of_ble_eq_true rfl) ⟨Nat.le_of_ble_eq_true rfl, Nat.le_of_ble_eq_true rfl⟩ ⟨Nat.le_of_ble_eq_true rfl, Nat.le_of_ble_eq_true rfl⟩ (ws_sub 7 (by omega)) (fun H h => ⟨h.o_places, y4_put3 hb h hp⟩) ?_
      rw [show upd (mo_note W 1 y) (37 + p) ((W (37 + p)) + (mw_sz 1)) = G from hG.symm]
      refine mw_steps X 4 (pc' := 69) (lv' := [(0, .ref b), (1, .int (nI p)), (2, .int name), (3, .int (nI y)), (4, .int (nI 1)), (5, .int x)]) (st' := [.int (nI 1), .int (nI y), .int (nI p), .ref b]) rfl ?_
      refine mw_cV3r X kd_X3_houseFollows kv_X3_houseFollows kl_X3_179 (ci := 3) rfl rfl (Nat.le_of_ble_eq_true rfl) ⟨Nat.le_of_ble_eq_true rfl, Nat.le_of_ble_eq_true rfl⟩ ⟨Nat.le_of_ble_eq_true rfl, Nat.le_of_ble_eq_true rfl⟩ (fun _ h => h) (fun H h => ⟨⟨_, h.1⟩, zw_fol1 hb h hvG hp⟩) ?_
      refine mw_if_eq X 80 rfl rfl (fun c72 => ?_) (fun c72 => ?_)
      · refine mw_steps X 5 (pc' := 87) (lv' := [(0, .ref b), (1, .int (nI p)), (2, .int name), (3, .int (nI y)), (4, .int (nI 1)), (5, .int x)]) (st' := [.int x, .int (nI 1), .int name, .int (nI p), .ref b]) rfl ?_
        rw [show mo_folS G p 1 y = N from by rw [hN, ml_fol, if_neg (by rw [mo_b_z c72]; decide)]]
        have hvA : iv (c + 12) (mo_act N p 1 name x) := by rw [ml_act1]; exact iv_goes (c := c + 12) (hvN.less (by omega)) (by omega) hp (by omega) (iv_v1 _ _ _ (by omega) (by omega) (by omega))
        refine mw_cV4v X kd_X3_houseActs kv_X3_houseActs kl_X3_186 (ci := 3) rfl rfl (Nat.le_of_ble_eq_true rfl) ⟨Nat.le_of_ble_eq_true rfl, Nat.le_of_ble_eq_true rfl⟩ ⟨Nat.le_of_ble_eq_true rfl, Nat.le_of_ble_eq_true rfl⟩ (fun _ h => h) (fun H h => ⟨⟨_, h.1⟩, zw_act hb h (c := c + 12) hvN hp (by omega) hvx⟩) ?_
        refine mw_steps X 2 (pc' := 93) (lv' := [(0, .ref b), (1, .int (nI p)), (2, .int name), (3, .int (nI y)), (4, .int (nI 1)), (5, .int x)]) (st' := [.int (nI 1), .int (nI 1)]) rfl ?_
        refine mw_icmp_ne X 101 rfl rfl (fun c93 => absurd (by decide) c93) (fun c93 => ?_)
        refine mw_steps X 2 (pc' := 98) (lv' := [(0, .ref b), (1, .int (nI p)), (2, .int name), (3, .int (nI y)), (4, .int (nI 1)), (5, .int x)]) (st' := [.int (nI p), .ref b]) rfl ?_
        refine mw_cV1v X kd_X3_houseDoubts kv_X3_houseDoubts kl_X3_183 (ci := 3) rfl rfl (Nat.le_of_ble_eq_true rfl) ⟨Nat.le_of_ble_eq_true rfl, Nat.le_of_ble_eq_true rfl⟩ ⟨Nat.le_of_ble_eq_true rfl, Nat.le_of_ble_eq_true rfl⟩ (fun _ h => h) (fun H h => ⟨⟨_, h.1⟩, zw_once hb h hvA hp⟩) ?_
        rw [show mo_once (mo_act N p 1 name x) p = mo_houseBy N p 1 name x from by rw [ml_act1, ml_hb1]]
        refine mw_steps X 2 (pc' := 103) (lv' := [(0, .ref b), (1, .int (nI p)), (2, .int name), (3, .int (nI y)), (4, .int (nI 1)), (5, .int x)]) (st' := [.int (nI p), .ref b]) rfl ?_
        refine mw_cV1v X kd_X3_letsOut kv_X3_letsOut kl_X3_189 (ci := 3) rfl rfl (Nat.le_of_ble_eq_true rfl) ⟨Nat.le_of_ble_eq_true rfl, Nat.le_of_ble_eq_true rfl⟩ ⟨Nat.le_of_ble_eq_true rfl, Nat.le_of_ble_eq_true rfl⟩ (fun _ h => h) (fun H h => ⟨⟨_, h.1⟩, zw_letOut hb h (c := c) hvB hp⟩) ?_
        refine mw_steps X 1 (pc' := 107) (lv' := [(0, .ref b), (1, .int (nI p)), (2, .int name), (3, .int (nI y)), (4, .int (nI 1)), (5, .int x)]) (st' := [.int (nI 0)]) rfl ?_
        have hq : mo_houseWhy W name y = 0 ∧ mo_house W p name y 1 x = mo_letOut (mo_houseBy N p 1 name x) p := (by have := ml_house_0 (W := W) (p := p) (y := y) (k := 1) (name := name) (x := x) (mo_b_nz c8) (mo_b_z c24); rw [← hG, ← hN] at this; exact this)
        exact mw_iret X rfl rfl (fun H h => ⟨by rw [hq.1], by rw [hq.2]; exact h⟩)
      · refine mw_steps X 2 (pc' := 77) (lv' := [(0, .ref b), (1, .int (nI p)), (2, .int name), (3, .int (nI y)), (4, .int (nI 1)), (5, .int x)]) (st' := [.int (nI p), .ref b]) rfl ?_
        refine mw_cV1v X kd_X3_houseDoubts kv_X3_houseDoubts kl_X3_183 (ci := 3) rfl rfl (Nat.le_of_ble_eq_true rfl) ⟨Nat.le_of_ble_eq_true rfl, Nat.le_of_ble_eq_true rfl⟩ ⟨Nat.le_of_ble_eq_true rfl, Nat.le_of_ble_eq_true rfl⟩ (fun _ h => h) (fun H h => ⟨⟨_, h.1⟩, zw_once hb h hvF hp⟩) ?_
        refine mw_steps X 5 (pc' := 87) (lv' := [(0, .ref b), (1, .int (nI p)), (2, .int name), (3, .int (nI y)), (4, .int (nI 1)), (5, .int x)]) (st' := [.int x, .int (nI 1), .int name, .int (nI p), .ref b]) rfl ?_
        rw [show mo_once (mo_folS G p 1 y) p = N from by rw [hN, ml_fol, if_pos (mo_b_nz c72)]]
        have hvA : iv (c + 12) (mo_act N p 1 name x) := by rw [ml_act1]; exact iv_goes (c := c + 12) (hvN.less (by omega)) (by omega) hp (by omega) (iv_v1 _ _ _ (by omega) (by omega) (by omega))
        refine mw_cV4v X kd_X3_houseActs kv_X3_houseActs kl_X3_186 (ci := 3) rfl rfl (Nat.le_of_ble_eq_true rfl) ⟨Nat.le_of_ble_eq_true rfl, Nat.le_of_ble_eq_true rfl⟩ ⟨Nat.le_of_ble_eq_true rfl, Nat.le_of_ble_eq_true rfl⟩ (fun _ h => h) (fun H h => ⟨⟨_, h.1⟩, zw_act hb h (c := c + 12) hvN hp (by omega) hvx⟩) ?_
        refine mw_steps X 2 (pc' := 93) (lv' := [(0, .ref b), (1, .int (nI p)), (2, .int name), (3, .int (nI y)), (4, .int (nI 1)), (5, .int x)]) (st' := [.int (nI 1), .int (nI 1)]) rfl ?_
        refine mw_icmp_ne X 101 rfl rfl (fun c93 => absurd (by decide) c93) (fun c93 => ?_)
        refine mw_steps X 2 (pc' := 98) (lv' := [(0, .ref b), (1, .int (nI p)), (2, .int name), (3, .int (nI y)), (4, .int (nI 1)), (5, .int x)]) (st' := [.int (nI p), .ref b]) rfl ?_
        refine mw_cV1v X kd_X3_houseDoubts kv_X3_houseDoubts kl_X3_183 (ci := 3) rfl rfl (Nat.le_of_ble_eq_true rfl) ⟨Nat.le_of_ble_eq_true rfl, Nat.le_of_ble_eq_true rfl⟩ ⟨Nat.le_of_ble_eq_true rfl, Nat.le_of_ble_eq_true rfl⟩ (fun _ h => h) (fun H h => ⟨⟨_, h.1⟩, zw_once hb h hvA hp⟩) ?_
        rw [show mo_once (mo_act N p 1 name x) p = mo_houseBy N p 1 name x from by rw [ml_act1, ml_hb1]]
        refine mw_steps X 2 (pc' := 103) (lv' := [(0, .ref b), (1, .int (nI p)), (2, .int name), (3, .int (nI y)), (4, .int (nI 1)), (5, .int x)]) (st' := [.int (nI p), .ref b]) rfl ?_
        refine mw_cV1v X kd_X3_letsOut kv_X3_letsOut kl_X3_189 (ci := 3) rfl rfl (Nat.le_of_ble_eq_true rfl) ⟨Nat.le_of_ble_eq_true rfl, Nat.le_of_ble_eq_true rfl⟩ ⟨Nat.le_of_ble_eq_true rfl, Nat.le_of_ble_eq_true rfl⟩ (fun _ h => h) (fun H h => ⟨⟨_, h.1⟩, zw_letOut hb h (c := c) hvB hp⟩) ?_
        refine mw_steps X 1 (pc' := 107) (lv' := [(0, .ref b), (1, .int (nI p)), (2, .int name), (3, .int (nI y)), (4, .int (nI 1)), (5, .int x)]) (st' := [.int (nI 0)]) rfl ?_
        have hq : mo_houseWhy W name y = 0 ∧ mo_house W p name y 1 x = mo_letOut (mo_houseBy N p 1 name x) p := (by have := ml_house_0 (W := W) (p := p) (y := y) (k := 1) (name := name) (x := x) (mo_b_nz c8) (mo_b_z c24); rw [← hG, ← hN] at this; exact this)
        exact mw_iret X rfl rfl (fun H h => ⟨by rw [hq.1], by rw [hq.2]; exact h⟩)
    · refine mw_steps X 1 (pc' := 28) (lv' := [(0, .ref b), (1, .int (nI p)), (2, .int name), (3, .int (nI y)), (4, .int (nI 1)), (5, .int x)]) (st' := [.int (nI 3)]) rfl ?_
      have hq : mo_houseWhy W name y = 3 ∧ mo_house W p name y 1 x = W := ml_house_3 (mo_b_nz c8) (mo_b_nz c24)
      exact mw_iret X rfl rfl (fun H h => ⟨by rw [hq.1], by rw [hq.2]; exact h⟩)
  · refine mw_steps X 1 (pc' := 12) (lv' := [(0, .ref b), (1, .int (nI p)), (2, .int name), (3, .int (nI y)), (4, .int (nI 1)), (5, .int x)]) (st' := [.int (nI 1)]) rfl ?_
    have hq : mo_houseWhy W name y = 1 ∧ mo_house W p name y 1 x = W := ml_house_1 (mo_b_z c8)
    exact mw_iret X rfl rfl (fun H h => ⟨by rw [hq.1], by rw [hq.2]; exact h⟩)
set_option maxHeartbeats 4000000 in
set_option maxRecDepth 20000 in
theorem zw_house2 {l : Launch} {Γ : mw_C} {b : Nat} (hb : Γ.2.2.2 ≤ b) {W : Nat → Int32} {sd : Int32} {H : Heap} {p y c : Nat} {name x : Int32} (hH : ws_I Γ b W sd H) (hv : iv (c + 25) W) (hp : p < 5) (hy : y < 32768) (hvx : iv_v 0 2 x) : mw_Cr l Γ mX3_houseTakes 5 0 0 (ws_A b) [.ref b, .int (nI p), .int name, .int (nI y), .int (nI 2), .int x] H (some (.int (nI (mo_houseWhy W name y)))) (ws_I Γ b (mo_house W p name y 2 x) sd) := by
  obtain ⟨G, hG⟩ : ∃ G, G = mo_houseGot W p 2 y := ⟨_, rfl⟩
  have hvG : iv (c + 25) G := by rw [hG]; exact iv_got hv hp
  obtain ⟨N, hN⟩ : ∃ N, N = mo_new G p 2 y := ⟨_, rfl⟩
  have hvN : iv (c + 24) N := by rw [hN]; exact iv_new (c := c + 24) hvG hp
  have hvF : iv (c + 25) (mo_folS G p 2 y) := iv_folS hvG hp
  have hvB : iv (c + 12) (mo_houseBy N p 2 name x) := iv_houseBy (c := c + 12) hvN hp (by omega) hvx
  refine mw_ofG (P := pX3_houseTakes) (by decide) (ws_As hb) oX3_houseTakes (Nat.le_of_ble_eq_true rfl) ?_
  intro pg e0 sg mg below meth cd X hs
  refine mw_pre (I' := ws_I Γ b W sd) (fun H1 h1 => by rw [h1]; exact hH) ?_
  refine mw_steps X 1 (pc' := 1) (lv' := [(0, .ref b), (1, .int (nI p)), (2, .int name), (3, .int (nI y)), (4, .int (nI 2)), (5, .int x)]) (st' := [.ref b]) rfl ?_
  refine mw_get X kf_X3_34.fl kc_3 rfl (v := .ref (b + 9)) (fun H h => ⟨_, h.1, rfl⟩) ?_
  refine mw_steps X 1 (pc' := 5) (lv' := [(0, .ref b), (1, .int (nI p)), (2, .int name), (3, .int (nI y)), (4, .int (nI 2)), (5, .int x)]) (st' := [.int name, .ref (b + 9)]) rfl ?_
  refine mw_cV1r X kd_X1_has kv_X1_has kl_X3_173 (ci := 1) rfl rfl (Nat.le_of_ble_eq_true rfl) ⟨Nat.le_of_ble_eq_true rfl, Nat.le_of_ble_eq_true rfl⟩ ⟨Nat.le_of_ble_eq_true rfl, Nat.le_of_ble_eq_true rfl⟩ (ws_sub 9 (by omega)) (fun H h => ⟨h.o_live, y5_has hb h⟩) ?_
  refine mw_top (y := mo_b (mo_live W name)) (congrArg mo_b (ml_liveC hv)) ?_
  refine mw_if_ne X 13 rfl rfl (fun c8 => ?_) (fun c8 => ?_)
  · refine mw_steps X 1 (pc' := 14) (lv' := [(0, .ref b), (1, .int (nI p)), (2, .int name), (3, .int (nI y)), (4, .int (nI 2)), (5, .int x)]) (st' := [.ref b]) rfl ?_
    refine mw_get X kf_X3_51.fl kc_3 rfl (v := .ref (b + 20)) (fun H h => ⟨_, h.1, rfl⟩) ?_
    refine mw_get X kf_X3_176 kc_0 rfl (v := .ref (b + 23)) (fun H h => ⟨_, h.2.2.2.2.2.2.2.2.2.2.2.1, rfl⟩) ?_
    refine mw_steps X 1 (pc' := 21) (lv' := [(0, .ref b), (1, .int (nI p)), (2, .int name), (3, .int (nI y)), (4, .int (nI 2)), (5, .int x)]) (st' := [.int (nI y), .ref (b + 23)]) rfl ?_
    refine mw_cV1r X kd_X1_has kv_X1_has kl_X3_173 (ci := 1) rfl rfl (Nat.le_of_ble_eq_true rfl) ⟨Nat.le_of_ble_eq_true rfl, Nat.le_of_ble_eq_true rfl⟩ ⟨Nat.le_of_ble_eq_true rfl, Nat.le_of_ble_eq_true rfl⟩ (ws_sub 23 (by omega)) (fun H h => ⟨h.o_taken1, y13_has hb h⟩) ?_
    refine mw_top (y := mo_b (mo_bit W 1 y)) (by rw [mo_bl_n hy (by omega), ml_n (by omega), Bool.true_and]) ?_
    refine mw_if_eq X 29 rfl rfl (fun c24 => ?_) (fun c24 => ?_)
    · refine mw_steps X 1 (pc' := 30) (lv' := [(0, .ref b), (1, .int (nI p)), (2, .int name), (3, .int (nI y)), (4, .int (nI 2)), (5, .int x)]) (st' := [.ref b]) rfl ?_
      refine mw_get X kf_X3_51.fl kc_3 rfl (v := .ref (b + 20)) (fun H h => ⟨_, h.1, rfl⟩) ?_
      refine mw_get X kf_X3_176 kc_0 rfl (v := .ref (b + 23)) (fun H h => ⟨_, h.2.2.2.2.2.2.2.2.2.2.2.1, rfl⟩) ?_
      refine mw_steps X 1 (pc' := 37) (lv' := [(0, .ref b), (1, .int (nI p)), (2, .int name), (3, .int (nI y)), (4, .int (nI 2)), (5, .int x)]) (st' := [.int (nI y), .ref (b + 23)]) rfl ?_
      refine mw_cV1v X kd_X1_add kv_X1_add kl_X3_73 (ci := 1) rfl rfl (Nat.le_of_ble_eq_true rfl) ⟨Nat.le_of_ble_eq_true rfl, Nat.le_of_ble_eq_true rfl⟩ ⟨Nat.le_of_ble_eq_true rfl, Nat.le_of_ble_eq_true rfl⟩ (ws_sub 23 (by omega)) (fun H h => ⟨h.o_taken1, y13_add (k := y) hb h hy⟩) ?_
      refine mw_steps X 1 (pc' := 41) (lv' := [(0, .ref b), (1, .int (nI p)), (2, .int name), (3, .int (nI y)), (4, .int (nI 2)), (5, .int x)]) (st' := [.ref b]) rfl ?_
      refine mw_get X kf_X3_26.fl kc_3 rfl (v := .ref (b + 7)) (fun H h => ⟨_, h.1, rfl⟩) ?_
      refine mw_steps X 3 (pc' := 47) (lv' := [(0, .ref b), (1, .int (nI p)), (2, .int name), (3, .int (nI y)), (4, .int (nI 2)), (5, .int x)]) (st' := [.ref b, .int (nI 3), .int (nI p), .ref (b + 7)]) rfl ?_
      refine mw_get X kf_X3_26.fl kc_3 rfl (v := .ref (b + 7)) (fun H h => ⟨_, h.1, rfl⟩) ?_
      refine mw_steps X 2 (pc' := 52) (lv' := [(0, .ref b), (1, .int (nI p)), (2, .int name), (3, .int (nI y)), (4, .int (nI 2)), (5, .int x)]) (st' := [.int (nI 3), .int (nI p), .ref (b + 7), .int (nI 3), .int (nI p), .ref (b + 7)]) rfl ?_
      refine mw_cV2r X kd_X2_at kv_X2_at kl_X3_98 (ci := 2) rfl rfl (Nat.le_of_ble_eq_true rfl) ⟨Nat.le_of_ble_eq_true rfl, Nat.le_of_ble_eq_true rfl⟩ ⟨Nat.le_of_ble_eq_true rfl, Nat.le_of_ble_eq_true rfl⟩ (ws_sub 7 (by omega)) (fun H h => ⟨h.o_places, y4_at3 hb h hp⟩) ?_
      refine mw_top (y := W (37 + p)) (ml_note_out (by omega)) ?_
      refine mw_steps X 1 (pc' := 57) (lv' := [(0, .ref b), (1, .int (nI p)), (2, .int name), (3, .int (nI y)), (4, .int (nI 2)), (5, .int x)]) (st' := [.int (nI 2), .int (W (37 + p)), .int (nI 3), .int (nI p), .ref (b + 7)]) rfl ?_
      refine mw_cS1r X kd_X3_sizeOf ks_X3_sizeOf kl_X3_149 rfl (Nat.le_of_ble_eq_true rfl) ⟨Nat.le_of_ble_eq_true rfl, Nat.le_of_ble_eq_true rfl⟩ ⟨Nat.le_of_ble_eq_true rfl, Nat.le_of_ble_eq_true rfl⟩ (fun _ h => h) (fun H h => zw_sizeOf hb (k := 2) (by omega) h) ?_
      refine mw_steps X 1 (pc' := 61) (lv' := [(0, .ref b), (1, .int (nI p)), (2, .int name), (3, .int (nI y)), (4, .int (nI 2)), (5, .int x)]) (st' := [.int ((W (37 + p)) + (mw_sz 2)), .int (nI 3), .int (nI p), .ref (b + 7)]) rfl ?_
      refine mw_cV3v X kd_X2_put kv_X2_put kl_X3_69 (ci := 2) rfl rfl (Nat.le_of_ble_eq_true rfl) ⟨Nat.le_of_ble_eq_true rfl, Nat.le_of_ble_eq_true rfl⟩ ⟨Nat.le_of_ble_eq_true rfl, Nat.le_of_ble_eq_true rfl⟩ (ws_sub 7 (by omega)) (fun H h => ⟨h.o_places, y4_put3 hb h hp⟩) ?_
      rw [show upd (mo_note W 1 y) (37 + p) ((W (37 + p)) + (mw_sz 2)) = G from hG.symm]
      refine mw_steps X 4 (pc' := 69) (lv' := [(0, .ref b), (1, .int (nI p)), (2, .int name), (3, .int (nI y)), (4, .int (nI 2)), (5, .int x)]) (st' := [.int (nI 2), .int (nI y), .int (nI p), .ref b]) rfl ?_
      refine mw_cV3r X kd_X3_houseFollows kv_X3_houseFollows kl_X3_179 (ci := 3) rfl rfl (Nat.le_of_ble_eq_true rfl) ⟨Nat.le_of_ble_eq_true rfl, Nat.le_of_ble_eq_true rfl⟩ ⟨Nat.le_of_ble_eq_true rfl, Nat.le_of_ble_eq_true rfl⟩ (fun _ h => h) (fun H h => ⟨⟨_, h.1⟩, zw_fol2 hb h hvG hp⟩) ?_
      refine mw_if_eq X 80 rfl rfl (fun c72 => ?_) (fun c72 => ?_)
      · refine mw_steps X 5 (pc' := 87) (lv' := [(0, .ref b), (1, .int (nI p)), (2, .int name), (3, .int (nI y)), (4, .int (nI 2)), (5, .int x)]) (st' := [.int x, .int (nI 2), .int name, .int (nI p), .ref b]) rfl ?_
        rw [show mo_folS G p 2 y = N from by rw [hN, ml_fol, if_neg (by rw [mo_b_z c72]; decide)]]
        have hvA : iv (c + 12) (mo_act N p 2 name x) := by rw [ml_actn (by omega)]; exact hvB
        refine mw_cV4v X kd_X3_houseActs kv_X3_houseActs kl_X3_186 (ci := 3) rfl rfl (Nat.le_of_ble_eq_true rfl) ⟨Nat.le_of_ble_eq_true rfl, Nat.le_of_ble_eq_true rfl⟩ ⟨Nat.le_of_ble_eq_true rfl, Nat.le_of_ble_eq_true rfl⟩ (fun _ h => h) (fun H h => ⟨⟨_, h.1⟩, zw_act hb h (c := c + 12) hvN hp (by omega) hvx⟩) ?_
        rw [show mo_act N p 2 name x = mo_houseBy N p 2 name x from by exact ml_actn (by omega)]
        refine mw_steps X 2 (pc' := 93) (lv' := [(0, .ref b), (1, .int (nI p)), (2, .int name), (3, .int (nI y)), (4, .int (nI 2)), (5, .int x)]) (st' := [.int (nI 1), .int (nI 2)]) rfl ?_
        refine mw_icmp_ne X 101 rfl rfl (fun c93 => ?_) (fun c93 => absurd c93 (by decide))
        refine mw_steps X 2 (pc' := 103) (lv' := [(0, .ref b), (1, .int (nI p)), (2, .int name), (3, .int (nI y)), (4, .int (nI 2)), (5, .int x)]) (st' := [.int (nI p), .ref b]) rfl ?_
        refine mw_cV1v X kd_X3_letsOut kv_X3_letsOut kl_X3_189 (ci := 3) rfl rfl (Nat.le_of_ble_eq_true rfl) ⟨Nat.le_of_ble_eq_true rfl, Nat.le_of_ble_eq_true rfl⟩ ⟨Nat.le_of_ble_eq_true rfl, Nat.le_of_ble_eq_true rfl⟩ (fun _ h => h) (fun H h => ⟨⟨_, h.1⟩, zw_letOut hb h (c := c) hvB hp⟩) ?_
        refine mw_steps X 1 (pc' := 107) (lv' := [(0, .ref b), (1, .int (nI p)), (2, .int name), (3, .int (nI y)), (4, .int (nI 2)), (5, .int x)]) (st' := [.int (nI 0)]) rfl ?_
        have hq : mo_houseWhy W name y = 0 ∧ mo_house W p name y 2 x = mo_letOut (mo_houseBy N p 2 name x) p := (by have := ml_house_0 (W := W) (p := p) (y := y) (k := 2) (name := name) (x := x) (mo_b_nz c8) (mo_b_z c24); rw [← hG, ← hN] at this; exact this)
        exact mw_iret X rfl rfl (fun H h => ⟨by rw [hq.1], by rw [hq.2]; exact h⟩)
      · refine mw_steps X 2 (pc' := 77) (lv' := [(0, .ref b), (1, .int (nI p)), (2, .int name), (3, .int (nI y)), (4, .int (nI 2)), (5, .int x)]) (st' := [.int (nI p), .ref b]) rfl ?_
        refine mw_cV1v X kd_X3_houseDoubts kv_X3_houseDoubts kl_X3_183 (ci := 3) rfl rfl (Nat.le_of_ble_eq_true rfl) ⟨Nat.le_of_ble_eq_true rfl, Nat.le_of_ble_eq_true rfl⟩ ⟨Nat.le_of_ble_eq_true rfl, Nat.le_of_ble_eq_true rfl⟩ (fun _ h => h) (fun H h => ⟨⟨_, h.1⟩, zw_once hb h hvF hp⟩) ?_
        refine mw_steps X 5 (pc' := 87) (lv' := [(0, .ref b), (1, .int (nI p)), (2, .int name), (3, .int (nI y)), (4, .int (nI 2)), (5, .int x)]) (st' := [.int x, .int (nI 2), .int name, .int (nI p), .ref b]) rfl ?_
        rw [show mo_once (mo_folS G p 2 y) p = N from by rw [hN, ml_fol, if_pos (mo_b_nz c72)]]
        have hvA : iv (c + 12) (mo_act N p 2 name x) := by rw [ml_actn (by omega)]; exact hvB
        refine mw_cV4v X kd_X3_houseActs kv_X3_houseActs kl_X3_186 (ci := 3) rfl rfl (Nat.le_of_ble_eq_true rfl) ⟨Nat.le_of_ble_eq_true rfl, Nat.le_of_ble_eq_true rfl⟩ ⟨Nat.le_of_ble_eq_true rfl, Nat.le_of_ble_eq_true rfl⟩ (fun _ h => h) (fun H h => ⟨⟨_, h.1⟩, zw_act hb h (c := c + 12) hvN hp (by omega) hvx⟩) ?_
        rw [show mo_act N p 2 name x = mo_houseBy N p 2 name x from by exact ml_actn (by omega)]
        refine mw_steps X 2 (pc' := 93) (lv' := [(0, .ref b), (1, .int (nI p)), (2, .int name), (3, .int (nI y)), (4, .int (nI 2)), (5, .int x)]) (st' := [.int (nI 1), .int (nI 2)]) rfl ?_
        refine mw_icmp_ne X 101 rfl rfl (fun c93 => ?_) (fun c93 => absurd c93 (by decide))
        refine mw_steps X 2 (pc' := 103) (lv' := [(0, .ref b), (1, .int (nI p)), (2, .int name), (3, .int (nI y)), (4, .int (nI 2)), (5, .int x)]) (st' := [.int (nI p), .ref b]) rfl ?_
        refine mw_cV1v X kd_X3_letsOut kv_X3_letsOut kl_X3_189 (ci := 3) rfl rfl (Nat.le_of_ble_eq_true rfl) ⟨Nat.le_of_ble_eq_true rfl, Nat.le_of_ble_eq_true rfl⟩ ⟨Nat.le_of_ble_eq_true rfl, Nat.le_of_ble_eq_true rfl⟩ (fun _ h => h) (fun H h => ⟨⟨_, h.1⟩, zw_letOut hb h (c := c) hvB hp⟩) ?_
        refine mw_steps X 1 (pc' := 107) (lv' := [(0, .ref b), (1, .int (nI p)), (2, .int name), (3, .int (nI y)), (4, .int (nI 2)), (5, .int x)]) (st' := [.int (nI 0)]) rfl ?_
        have hq : mo_houseWhy W name y = 0 ∧ mo_house W p name y 2 x = mo_letOut (mo_houseBy N p 2 name x) p := (by have := ml_house_0 (W := W) (p := p) (y := y) (k := 2) (name := name) (x := x) (mo_b_nz c8) (mo_b_z c24); rw [← hG, ← hN] at this; exact this)
        exact mw_iret X rfl rfl (fun H h => ⟨by rw [hq.1], by rw [hq.2]; exact h⟩)
    · refine mw_steps X 1 (pc' := 28) (lv' := [(0, .ref b), (1, .int (nI p)), (2, .int name), (3, .int (nI y)), (4, .int (nI 2)), (5, .int x)]) (st' := [.int (nI 3)]) rfl ?_
      have hq : mo_houseWhy W name y = 3 ∧ mo_house W p name y 2 x = W := ml_house_3 (mo_b_nz c8) (mo_b_nz c24)
      exact mw_iret X rfl rfl (fun H h => ⟨by rw [hq.1], by rw [hq.2]; exact h⟩)
  · refine mw_steps X 1 (pc' := 12) (lv' := [(0, .ref b), (1, .int (nI p)), (2, .int name), (3, .int (nI y)), (4, .int (nI 2)), (5, .int x)]) (st' := [.int (nI 1)]) rfl ?_
    have hq : mo_houseWhy W name y = 1 ∧ mo_house W p name y 2 x = W := ml_house_1 (mo_b_z c8)
    exact mw_iret X rfl rfl (fun H h => ⟨by rw [hq.1], by rw [hq.2]; exact h⟩)
set_option maxHeartbeats 4000000 in
set_option maxRecDepth 20000 in
theorem zw_house3 {l : Launch} {Γ : mw_C} {b : Nat} (hb : Γ.2.2.2 ≤ b) {W : Nat → Int32} {sd : Int32} {H : Heap} {p y c : Nat} {name x : Int32} (hH : ws_I Γ b W sd H) (hv : iv (c + 25) W) (hp : p < 5) (hy : y < 32768) (hvx : iv_v 0 3 x) : mw_Cr l Γ mX3_houseTakes 5 0 0 (ws_A b) [.ref b, .int (nI p), .int name, .int (nI y), .int (nI 3), .int x] H (some (.int (nI (mo_houseWhy W name y)))) (ws_I Γ b (mo_house W p name y 3 x) sd) := by
  obtain ⟨G, hG⟩ : ∃ G, G = mo_houseGot W p 3 y := ⟨_, rfl⟩
  have hvG : iv (c + 25) G := by rw [hG]; exact iv_got hv hp
  obtain ⟨N, hN⟩ : ∃ N, N = mo_new G p 3 y := ⟨_, rfl⟩
  have hvN : iv (c + 24) N := by rw [hN]; exact iv_new (c := c + 24) hvG hp
  have hvF : iv (c + 25) (mo_folS G p 3 y) := iv_folS hvG hp
  have hvB : iv (c + 12) (mo_houseBy N p 3 name x) := iv_houseBy (c := c + 12) hvN hp (by omega) hvx
  refine mw_ofG (P := pX3_houseTakes) (by decide) (ws_As hb) oX3_houseTakes (Nat.le_of_ble_eq_true rfl) ?_
  intro pg e0 sg mg below meth cd X hs
  refine mw_pre (I' := ws_I Γ b W sd) (fun H1 h1 => by rw [h1]; exact hH) ?_
  refine mw_steps X 1 (pc' := 1) (lv' := [(0, .ref b), (1, .int (nI p)), (2, .int name), (3, .int (nI y)), (4, .int (nI 3)), (5, .int x)]) (st' := [.ref b]) rfl ?_
  refine mw_get X kf_X3_34.fl kc_3 rfl (v := .ref (b + 9)) (fun H h => ⟨_, h.1, rfl⟩) ?_
  refine mw_steps X 1 (pc' := 5) (lv' := [(0, .ref b), (1, .int (nI p)), (2, .int name), (3, .int (nI y)), (4, .int (nI 3)), (5, .int x)]) (st' := [.int name, .ref (b + 9)]) rfl ?_
  refine mw_cV1r X kd_X1_has kv_X1_has kl_X3_173 (ci := 1) rfl rfl (Nat.le_of_ble_eq_true rfl) ⟨Nat.le_of_ble_eq_true rfl, Nat.le_of_ble_eq_true rfl⟩ ⟨Nat.le_of_ble_eq_true rfl, Nat.le_of_ble_eq_true rfl⟩ (ws_sub 9 (by omega)) (fun H h => ⟨h.o_live, y5_has hb h⟩) ?_
  refine mw_top (y := mo_b (mo_live W name)) (congrArg mo_b (ml_liveC hv)) ?_
  refine mw_if_ne X 13 rfl rfl (fun c8 => ?_) (fun c8 => ?_)
  · refine mw_steps X 1 (pc' := 14) (lv' := [(0, .ref b), (1, .int (nI p)), (2, .int name), (3, .int (nI y)), (4, .int (nI 3)), (5, .int x)]) (st' := [.ref b]) rfl ?_
    refine mw_get X kf_X3_51.fl kc_3 rfl (v := .ref (b + 20)) (fun H h => ⟨_, h.1, rfl⟩) ?_
    refine mw_get X kf_X3_176 kc_0 rfl (v := .ref (b + 23)) (fun H h => ⟨_, h.2.2.2.2.2.2.2.2.2.2.2.1, rfl⟩) ?_
    refine mw_steps X 1 (pc' := 21) (lv' := [(0, .ref b), (1, .int (nI p)), (2, .int name), (3, .int (nI y)), (4, .int (nI 3)), (5, .int x)]) (st' := [.int (nI y), .ref (b + 23)]) rfl ?_
    refine mw_cV1r X kd_X1_has kv_X1_has kl_X3_173 (ci := 1) rfl rfl (Nat.le_of_ble_eq_true rfl) ⟨Nat.le_of_ble_eq_true rfl, Nat.le_of_ble_eq_true rfl⟩ ⟨Nat.le_of_ble_eq_true rfl, Nat.le_of_ble_eq_true rfl⟩ (ws_sub 23 (by omega)) (fun H h => ⟨h.o_taken1, y13_has hb h⟩) ?_
    refine mw_top (y := mo_b (mo_bit W 1 y)) (by rw [mo_bl_n hy (by omega), ml_n (by omega), Bool.true_and]) ?_
    refine mw_if_eq X 29 rfl rfl (fun c24 => ?_) (fun c24 => ?_)
    · refine mw_steps X 1 (pc' := 30) (lv' := [(0, .ref b), (1, .int (nI p)), (2, .int name), (3, .int (nI y)), (4, .int (nI 3)), (5, .int x)]) (st' := [.ref b]) rfl ?_
      refine mw_get X kf_X3_51.fl kc_3 rfl (v := .ref (b + 20)) (fun H h => ⟨_, h.1, rfl⟩) ?_
      refine mw_get X kf_X3_176 kc_0 rfl (v := .ref (b + 23)) (fun H h => ⟨_, h.2.2.2.2.2.2.2.2.2.2.2.1, rfl⟩) ?_
      refine mw_steps X 1 (pc' := 37) (lv' := [(0, .ref b), (1, .int (nI p)), (2, .int name), (3, .int (nI y)), (4, .int (nI 3)), (5, .int x)]) (st' := [.int (nI y), .ref (b + 23)]) rfl ?_
      refine mw_cV1v X kd_X1_add kv_X1_add kl_X3_73 (ci := 1) rfl rfl (Nat.le_of_ble_eq_true rfl) ⟨Nat.le_of_ble_eq_true rfl, Nat.le_of_ble_eq_true rfl⟩ ⟨Nat.le_of_ble_eq_true rfl, Nat.le_of_ble_eq_true rfl⟩ (ws_sub 23 (by omega)) (fun H h => ⟨h.o_taken1, y13_add (k := y) hb h hy⟩) ?_
      refine mw_steps X 1 (pc' := 41) (lv' := [(0, .ref b), (1, .int (nI p)), (2, .int name), (3, .int (nI y)), (4, .int (nI 3)), (5, .int x)]) (st' := [.ref b]) rfl ?_
      refine mw_get X kf_X3_26.fl kc_3 rfl (v := .ref (b + 7)) (fun H h => ⟨_, h.1, rfl⟩) ?_
      refine mw_steps X 3 (pc' := 47) (lv' := [(0, .ref b), (1, .int (nI p)), (2, .int name), (3, .int (nI y)), (4, .int (nI 3)), (5, .int x)]) (st' := [.ref b, .int (nI 3), .int (nI p), .ref (b + 7)]) rfl ?_
      refine mw_get X kf_X3_26.fl kc_3 rfl (v := .ref (b + 7)) (fun H h => ⟨_, h.1, rfl⟩) ?_
      refine mw_steps X 2 (pc' := 52) (lv' := [(0, .ref b), (1, .int (nI p)), (2, .int name), (3, .int (nI y)), (4, .int (nI 3)), (5, .int x)]) (st' := [.int (nI 3), .int (nI p), .ref (b + 7), .int (nI 3), .int (nI p), .ref (b + 7)]) rfl ?_
      refine mw_cV2r X kd_X2_at kv_X2_at kl_X3_98 (ci := 2) rfl rfl (Nat.le_of_ble_eq_true rfl) ⟨Nat.le_of_ble_eq_true rfl, Nat.le_of_ble_eq_true rfl⟩ ⟨Nat.le_of_ble_eq_true rfl, Nat.le_of_ble_eq_true rfl⟩ (ws_sub 7 (by omega)) (fun H h => ⟨h.o_places, y4_at3 hb h hp⟩) ?_
      refine mw_top (y := W (37 + p)) (ml_note_out (by omega)) ?_
      refine mw_steps X 1 (pc' := 57) (lv' := [(0, .ref b), (1, .int (nI p)), (2, .int name), (3, .int (nI y)), (4, .int (nI 3)), (5, .int x)]) (st' := [.int (nI 3), .int (W (37 + p)), .int (nI 3), .int (nI p), .ref (b + 7)]) rfl ?_
      refine mw_cS1r X kd_X3_sizeOf ks_X3_sizeOf kl_X3_149 rfl (Nat.le_of_ble_eq_true rfl) ⟨Nat.le_of_ble_eq_true rfl, Nat.le_of_ble_eq_true rfl⟩ ⟨Nat.le_of_ble_eq_true rfl, Nat.le_of_ble_eq_true rfl⟩ (fun _ h => h) (fun H h => zw_sizeOf hb (k := 3) (by omega) h) ?_
      refine mw_steps X 1 (pc' := 61) (lv' := [(0, .ref b), (1, .int (nI p)), (2, .int name), (3, .int (nI y)), (4, .int (nI 3)), (5, .int x)]) (st' := [.int ((W (37 + p)) + (mw_sz 3)), .int (nI 3), .int (nI p), .ref (b + 7)]) rfl ?_
      refine mw_cV3v X kd_X2_put kv_X2_put kl_X3_69 (ci := 2) rfl rfl (Nat.le_of_ble_eq_true rfl) ⟨Nat.le_of_ble_eq_true rfl, Nat.le_of_ble_eq_true rfl⟩ ⟨Nat.le_of_ble_eq_true rfl, Nat.le_of_ble_eq_true rfl⟩ (ws_sub 7 (by omega)) (fun H h => ⟨h.o_places, y4_put3 hb h hp⟩) ?_
      rw [show upd (mo_note W 1 y) (37 + p) ((W (37 + p)) + (mw_sz 3)) = G from hG.symm]
      refine mw_steps X 4 (pc' := 69) (lv' := [(0, .ref b), (1, .int (nI p)), (2, .int name), (3, .int (nI y)), (4, .int (nI 3)), (5, .int x)]) (st' := [.int (nI 3), .int (nI y), .int (nI p), .ref b]) rfl ?_
      refine mw_cV3r X kd_X3_houseFollows kv_X3_houseFollows kl_X3_179 (ci := 3) rfl rfl (Nat.le_of_ble_eq_true rfl) ⟨Nat.le_of_ble_eq_true rfl, Nat.le_of_ble_eq_true rfl⟩ ⟨Nat.le_of_ble_eq_true rfl, Nat.le_of_ble_eq_true rfl⟩ (fun _ h => h) (fun H h => ⟨⟨_, h.1⟩, zw_fol3 hb h hvG hp⟩) ?_
      refine mw_if_eq X 80 rfl rfl (fun c72 => ?_) (fun c72 => ?_)
      · refine mw_steps X 5 (pc' := 87) (lv' := [(0, .ref b), (1, .int (nI p)), (2, .int name), (3, .int (nI y)), (4, .int (nI 3)), (5, .int x)]) (st' := [.int x, .int (nI 3), .int name, .int (nI p), .ref b]) rfl ?_
        rw [show mo_folS G p 3 y = N from by rw [hN, ml_fol, if_neg (by rw [mo_b_z c72]; decide)]]
        have hvA : iv (c + 12) (mo_act N p 3 name x) := by rw [ml_actn (by omega)]; exact hvB
        refine mw_cV4v X kd_X3_houseActs kv_X3_houseActs kl_X3_186 (ci := 3) rfl rfl (Nat.le_of_ble_eq_true rfl) ⟨Nat.le_of_ble_eq_true rfl, Nat.le_of_ble_eq_true rfl⟩ ⟨Nat.le_of_ble_eq_true rfl, Nat.le_of_ble_eq_true rfl⟩ (fun _ h => h) (fun H h => ⟨⟨_, h.1⟩, zw_act hb h (c := c + 12) hvN hp (by omega) hvx⟩) ?_
        rw [show mo_act N p 3 name x = mo_houseBy N p 3 name x from by exact ml_actn (by omega)]
        refine mw_steps X 2 (pc' := 93) (lv' := [(0, .ref b), (1, .int (nI p)), (2, .int name), (3, .int (nI y)), (4, .int (nI 3)), (5, .int x)]) (st' := [.int (nI 1), .int (nI 3)]) rfl ?_
        refine mw_icmp_ne X 101 rfl rfl (fun c93 => ?_) (fun c93 => absurd c93 (by decide))
        refine mw_steps X 2 (pc' := 103) (lv' := [(0, .ref b), (1, .int (nI p)), (2, .int name), (3, .int (nI y)), (4, .int (nI 3)), (5, .int x)]) (st' := [.int (nI p), .ref b]) rfl ?_
        refine mw_cV1v X kd_X3_letsOut kv_X3_letsOut kl_X3_189 (ci := 3) rfl rfl (Nat.le_of_ble_eq_true rfl) ⟨Nat.le_of_ble_eq_true rfl, Nat.le_of_ble_eq_true rfl⟩ ⟨Nat.le_of_ble_eq_true rfl, Nat.le_of_ble_eq_true rfl⟩ (fun _ h => h) (fun H h => ⟨⟨_, h.1⟩, zw_letOut hb h (c := c) hvB hp⟩) ?_
        refine mw_steps X 1 (pc' := 107) (lv' := [(0, .ref b), (1, .int (nI p)), (2, .int name), (3, .int (nI y)), (4, .int (nI 3)), (5, .int x)]) (st' := [.int (nI 0)]) rfl ?_
        have hq : mo_houseWhy W name y = 0 ∧ mo_house W p name y 3 x = mo_letOut (mo_houseBy N p 3 name x) p := (by have := ml_house_0 (W := W) (p := p) (y := y) (k := 3) (name := name) (x := x) (mo_b_nz c8) (mo_b_z c24); rw [← hG, ← hN] at this; exact this)
        exact mw_iret X rfl rfl (fun H h => ⟨by rw [hq.1], by rw [hq.2]; exact h⟩)
      · refine mw_steps X 2 (pc' := 77) (lv' := [(0, .ref b), (1, .int (nI p)), (2, .int name), (3, .int (nI y)), (4, .int (nI 3)), (5, .int x)]) (st' := [.int (nI p), .ref b]) rfl ?_
        refine mw_cV1v X kd_X3_houseDoubts kv_X3_houseDoubts kl_X3_183 (ci := 3) rfl rfl (Nat.le_of_ble_eq_true rfl) ⟨Nat.le_of_ble_eq_true rfl, Nat.le_of_ble_eq_true rfl⟩ ⟨Nat.le_of_ble_eq_true rfl, Nat.le_of_ble_eq_true rfl⟩ (fun _ h => h) (fun H h => ⟨⟨_, h.1⟩, zw_once hb h hvF hp⟩) ?_
        refine mw_steps X 5 (pc' := 87) (lv' := [(0, .ref b), (1, .int (nI p)), (2, .int name), (3, .int (nI y)), (4, .int (nI 3)), (5, .int x)]) (st' := [.int x, .int (nI 3), .int name, .int (nI p), .ref b]) rfl ?_
        rw [show mo_once (mo_folS G p 3 y) p = N from by rw [hN, ml_fol, if_pos (mo_b_nz c72)]]
        have hvA : iv (c + 12) (mo_act N p 3 name x) := by rw [ml_actn (by omega)]; exact hvB
        refine mw_cV4v X kd_X3_houseActs kv_X3_houseActs kl_X3_186 (ci := 3) rfl rfl (Nat.le_of_ble_eq_true rfl) ⟨Nat.le_of_ble_eq_true rfl, Nat.le_of_ble_eq_true rfl⟩ ⟨Nat.le_of_ble_eq_true rfl, Nat.le_of_ble_eq_true rfl⟩ (fun _ h => h) (fun H h => ⟨⟨_, h.1⟩, zw_act hb h (c := c + 12) hvN hp (by omega) hvx⟩) ?_
        rw [show mo_act N p 3 name x = mo_houseBy N p 3 name x from by exact ml_actn (by omega)]
        refine mw_steps X 2 (pc' := 93) (lv' := [(0, .ref b), (1, .int (nI p)), (2, .int name), (3, .int (nI y)), (4, .int (nI 3)), (5, .int x)]) (st' := [.int (nI 1), .int (nI 3)]) rfl ?_
        refine mw_icmp_ne X 101 rfl rfl (fun c93 => ?_) (fun c93 => absurd c93 (by decide))
        refine mw_steps X 2 (pc' := 103) (lv' := [(0, .ref b), (1, .int (nI p)), (2, .int name), (3, .int (nI y)), (4, .int (nI 3)), (5, .int x)]) (st' := [.int (nI p), .ref b]) rfl ?_
        refine mw_cV1v X kd_X3_letsOut kv_X3_letsOut kl_X3_189 (ci := 3) rfl rfl (Nat.le_of_ble_eq_true rfl) ⟨Nat.le_of_ble_eq_true rfl, Nat.le_of_ble_eq_true rfl⟩ ⟨Nat.le_of_ble_eq_true rfl, Nat.le_of_ble_eq_true rfl⟩ (fun _ h => h) (fun H h => ⟨⟨_, h.1⟩, zw_letOut hb h (c := c) hvB hp⟩) ?_
        refine mw_steps X 1 (pc' := 107) (lv' := [(0, .ref b), (1, .int (nI p)), (2, .int name), (3, .int (nI y)), (4, .int (nI 3)), (5, .int x)]) (st' := [.int (nI 0)]) rfl ?_
        have hq : mo_houseWhy W name y = 0 ∧ mo_house W p name y 3 x = mo_letOut (mo_houseBy N p 3 name x) p := (by have := ml_house_0 (W := W) (p := p) (y := y) (k := 3) (name := name) (x := x) (mo_b_nz c8) (mo_b_z c24); rw [← hG, ← hN] at this; exact this)
        exact mw_iret X rfl rfl (fun H h => ⟨by rw [hq.1], by rw [hq.2]; exact h⟩)
    · refine mw_steps X 1 (pc' := 28) (lv' := [(0, .ref b), (1, .int (nI p)), (2, .int name), (3, .int (nI y)), (4, .int (nI 3)), (5, .int x)]) (st' := [.int (nI 3)]) rfl ?_
      have hq : mo_houseWhy W name y = 3 ∧ mo_house W p name y 3 x = W := ml_house_3 (mo_b_nz c8) (mo_b_nz c24)
      exact mw_iret X rfl rfl (fun H h => ⟨by rw [hq.1], by rw [hq.2]; exact h⟩)
  · refine mw_steps X 1 (pc' := 12) (lv' := [(0, .ref b), (1, .int (nI p)), (2, .int name), (3, .int (nI y)), (4, .int (nI 3)), (5, .int x)]) (st' := [.int (nI 1)]) rfl ?_
    have hq : mo_houseWhy W name y = 1 ∧ mo_house W p name y 3 x = W := ml_house_1 (mo_b_z c8)
    exact mw_iret X rfl rfl (fun H h => ⟨by rw [hq.1], by rw [hq.2]; exact h⟩)
set_option maxHeartbeats 4000000 in
set_option maxRecDepth 20000 in
theorem zw_house4 {l : Launch} {Γ : mw_C} {b : Nat} (hb : Γ.2.2.2 ≤ b) {W : Nat → Int32} {sd : Int32} {H : Heap} {p y c : Nat} {name x : Int32} (hH : ws_I Γ b W sd H) (hv : iv (c + 25) W) (hp : p < 5) (hy : y < 32768) (hvx : iv_v 0 4 x) : mw_Cr l Γ mX3_houseTakes 5 0 0 (ws_A b) [.ref b, .int (nI p), .int name, .int (nI y), .int (nI 4), .int x] H (some (.int (nI (mo_houseWhy W name y)))) (ws_I Γ b (mo_house W p name y 4 x) sd) := by
  obtain ⟨G, hG⟩ : ∃ G, G = mo_houseGot W p 4 y := ⟨_, rfl⟩
  have hvG : iv (c + 25) G := by rw [hG]; exact iv_got hv hp
  obtain ⟨N, hN⟩ : ∃ N, N = mo_new G p 4 y := ⟨_, rfl⟩
  have hvN : iv (c + 24) N := by rw [hN]; exact iv_new (c := c + 24) hvG hp
  have hvF : iv (c + 25) (mo_folS G p 4 y) := iv_folS hvG hp
  have hvB : iv (c + 12) (mo_houseBy N p 4 name x) := iv_houseBy (c := c + 12) hvN hp (by omega) hvx
  refine mw_ofG (P := pX3_houseTakes) (by decide) (ws_As hb) oX3_houseTakes (Nat.le_of_ble_eq_true rfl) ?_
  intro pg e0 sg mg below meth cd X hs
  refine mw_pre (I' := ws_I Γ b W sd) (fun H1 h1 => by rw [h1]; exact hH) ?_
  refine mw_steps X 1 (pc' := 1) (lv' := [(0, .ref b), (1, .int (nI p)), (2, .int name), (3, .int (nI y)), (4, .int (nI 4)), (5, .int x)]) (st' := [.ref b]) rfl ?_
  refine mw_get X kf_X3_34.fl kc_3 rfl (v := .ref (b + 9)) (fun H h => ⟨_, h.1, rfl⟩) ?_
  refine mw_steps X 1 (pc' := 5) (lv' := [(0, .ref b), (1, .int (nI p)), (2, .int name), (3, .int (nI y)), (4, .int (nI 4)), (5, .int x)]) (st' := [.int name, .ref (b + 9)]) rfl ?_
  refine mw_cV1r X kd_X1_has kv_X1_has kl_X3_173 (ci := 1) rfl rfl (Nat.le_of_ble_eq_true rfl) ⟨Nat.le_of_ble_eq_true rfl, Nat.le_of_ble_eq_true rfl⟩ ⟨Nat.le_of_ble_eq_true rfl, Nat.le_of_ble_eq_true rfl⟩ (ws_sub 9 (by omega)) (fun H h => ⟨h.o_live, y5_has hb h⟩) ?_
  refine mw_top (y := mo_b (mo_live W name)) (congrArg mo_b (ml_liveC hv)) ?_
  refine mw_if_ne X 13 rfl rfl (fun c8 => ?_) (fun c8 => ?_)
  · refine mw_steps X 1 (pc' := 14) (lv' := [(0, .ref b), (1, .int (nI p)), (2, .int name), (3, .int (nI y)), (4, .int (nI 4)), (5, .int x)]) (st' := [.ref b]) rfl ?_
    refine mw_get X kf_X3_51.fl kc_3 rfl (v := .ref (b + 20)) (fun H h => ⟨_, h.1, rfl⟩) ?_
    refine mw_get X kf_X3_176 kc_0 rfl (v := .ref (b + 23)) (fun H h => ⟨_, h.2.2.2.2.2.2.2.2.2.2.2.1, rfl⟩) ?_
    refine mw_steps X 1 (pc' := 21) (lv' := [(0, .ref b), (1, .int (nI p)), (2, .int name), (3, .int (nI y)), (4, .int (nI 4)), (5, .int x)]) (st' := [.int (nI y), .ref (b + 23)]) rfl ?_
    refine mw_cV1r X kd_X1_has kv_X1_has kl_X3_173 (ci := 1) rfl rfl (Nat.le_of_ble_eq_true rfl) ⟨Nat.le_of_ble_eq_true rfl, Nat.le_of_ble_eq_true rfl⟩ ⟨Nat.le_of_ble_eq_true rfl, Nat.le_of_ble_eq_true rfl⟩ (ws_sub 23 (by omega)) (fun H h => ⟨h.o_taken1, y13_has hb h⟩) ?_
    refine mw_top (y := mo_b (mo_bit W 1 y)) (by rw [mo_bl_n hy (by omega), ml_n (by omega), Bool.true_and]) ?_
    refine mw_if_eq X 29 rfl rfl (fun c24 => ?_) (fun c24 => ?_)
    · refine mw_steps X 1 (pc' := 30) (lv' := [(0, .ref b), (1, .int (nI p)), (2, .int name), (3, .int (nI y)), (4, .int (nI 4)), (5, .int x)]) (st' := [.ref b]) rfl ?_
      refine mw_get X kf_X3_51.fl kc_3 rfl (v := .ref (b + 20)) (fun H h => ⟨_, h.1, rfl⟩) ?_
      refine mw_get X kf_X3_176 kc_0 rfl (v := .ref (b + 23)) (fun H h => ⟨_, h.2.2.2.2.2.2.2.2.2.2.2.1, rfl⟩) ?_
      refine mw_steps X 1 (pc' := 37) (lv' := [(0, .ref b), (1, .int (nI p)), (2, .int name), (3, .int (nI y)), (4, .int (nI 4)), (5, .int x)]) (st' := [.int (nI y), .ref (b + 23)]) rfl ?_
      refine mw_cV1v X kd_X1_add kv_X1_add kl_X3_73 (ci := 1) rfl rfl (Nat.le_of_ble_eq_true rfl) ⟨Nat.le_of_ble_eq_true rfl, Nat.le_of_ble_eq_true rfl⟩ ⟨Nat.le_of_ble_eq_true rfl, Nat.le_of_ble_eq_true rfl⟩ (ws_sub 23 (by omega)) (fun H h => ⟨h.o_taken1, y13_add (k := y) hb h hy⟩) ?_
      refine mw_steps X 1 (pc' := 41) (lv' := [(0, .ref b), (1, .int (nI p)), (2, .int name), (3, .int (nI y)), (4, .int (nI 4)), (5, .int x)]) (st' := [.ref b]) rfl ?_
      refine mw_get X kf_X3_26.fl kc_3 rfl (v := .ref (b + 7)) (fun H h => ⟨_, h.1, rfl⟩) ?_
      refine mw_steps X 3 (pc' := 47) (lv' := [(0, .ref b), (1, .int (nI p)), (2, .int name), (3, .int (nI y)), (4, .int (nI 4)), (5, .int x)]) (st' := [.ref b, .int (nI 3), .int (nI p), .ref (b + 7)]) rfl ?_
      refine mw_get X kf_X3_26.fl kc_3 rfl (v := .ref (b + 7)) (fun H h => ⟨_, h.1, rfl⟩) ?_
      refine mw_steps X 2 (pc' := 52) (lv' := [(0, .ref b), (1, .int (nI p)), (2, .int name), (3, .int (nI y)), (4, .int (nI 4)), (5, .int x)]) (st' := [.int (nI 3), .int (nI p), .ref (b + 7), .int (nI 3), .int (nI p), .ref (b + 7)]) rfl ?_
      refine mw_cV2r X kd_X2_at kv_X2_at kl_X3_98 (ci := 2) rfl rfl (Nat.le_of_ble_eq_true rfl) ⟨Nat.le_of_ble_eq_true rfl, Nat.le_of_ble_eq_true rfl⟩ ⟨Nat.le_of_ble_eq_true rfl, Nat.le_of_ble_eq_true rfl⟩ (ws_sub 7 (by omega)) (fun H h => ⟨h.o_places, y4_at3 hb h hp⟩) ?_
      refine mw_top (y := W (37 + p)) (ml_note_out (by omega)) ?_
      refine mw_steps X 1 (pc' := 57) (lv' := [(0, .ref b), (1, .int (nI p)), (2, .int name), (3, .int (nI y)), (4, .int (nI 4)), (5, .int x)]) (st' := [.int (nI 4), .int (W (37 + p)), .int (nI 3), .int (nI p), .ref (b + 7)]) rfl ?_
      refine mw_cS1r X kd_X3_sizeOf ks_X3_sizeOf kl_X3_149 rfl (Nat.le_of_ble_eq_true rfl) ⟨Nat.le_of_ble_eq_true rfl, Nat.le_of_ble_eq_true rfl⟩ ⟨Nat.le_of_ble_eq_true rfl, Nat.le_of_ble_eq_true rfl⟩ (fun _ h => h) (fun H h => zw_sizeOf hb (k := 4) (by omega) h) ?_
      refine mw_steps X 1 (pc' := 61) (lv' := [(0, .ref b), (1, .int (nI p)), (2, .int name), (3, .int (nI y)), (4, .int (nI 4)), (5, .int x)]) (st' := [.int ((W (37 + p)) + (mw_sz 4)), .int (nI 3), .int (nI p), .ref (b + 7)]) rfl ?_
      refine mw_cV3v X kd_X2_put kv_X2_put kl_X3_69 (ci := 2) rfl rfl (Nat.le_of_ble_eq_true rfl) ⟨Nat.le_of_ble_eq_true rfl, Nat.le_of_ble_eq_true rfl⟩ ⟨Nat.le_of_ble_eq_true rfl, Nat.le_of_ble_eq_true rfl⟩ (ws_sub 7 (by omega)) (fun H h => ⟨h.o_places, y4_put3 hb h hp⟩) ?_
      rw [show upd (mo_note W 1 y) (37 + p) ((W (37 + p)) + (mw_sz 4)) = G from hG.symm]
      refine mw_steps X 4 (pc' := 69) (lv' := [(0, .ref b), (1, .int (nI p)), (2, .int name), (3, .int (nI y)), (4, .int (nI 4)), (5, .int x)]) (st' := [.int (nI 4), .int (nI y), .int (nI p), .ref b]) rfl ?_
      refine mw_cV3r X kd_X3_houseFollows kv_X3_houseFollows kl_X3_179 (ci := 3) rfl rfl (Nat.le_of_ble_eq_true rfl) ⟨Nat.le_of_ble_eq_true rfl, Nat.le_of_ble_eq_true rfl⟩ ⟨Nat.le_of_ble_eq_true rfl, Nat.le_of_ble_eq_true rfl⟩ (fun _ h => h) (fun H h => ⟨⟨_, h.1⟩, zw_fol4 hb h hvG hp⟩) ?_
      refine mw_if_eq X 80 rfl rfl (fun c72 => ?_) (fun c72 => ?_)
      · refine mw_steps X 5 (pc' := 87) (lv' := [(0, .ref b), (1, .int (nI p)), (2, .int name), (3, .int (nI y)), (4, .int (nI 4)), (5, .int x)]) (st' := [.int x, .int (nI 4), .int name, .int (nI p), .ref b]) rfl ?_
        rw [show mo_folS G p 4 y = N from by rw [hN, ml_fol, if_neg (by rw [mo_b_z c72]; decide)]]
        have hvA : iv (c + 12) (mo_act N p 4 name x) := by rw [ml_actn (by omega)]; exact hvB
        refine mw_cV4v X kd_X3_houseActs kv_X3_houseActs kl_X3_186 (ci := 3) rfl rfl (Nat.le_of_ble_eq_true rfl) ⟨Nat.le_of_ble_eq_true rfl, Nat.le_of_ble_eq_true rfl⟩ ⟨Nat.le_of_ble_eq_true rfl, Nat.le_of_ble_eq_true rfl⟩ (fun _ h => h) (fun H h => ⟨⟨_, h.1⟩, zw_act hb h (c := c + 12) hvN hp (by omega) hvx⟩) ?_
        rw [show mo_act N p 4 name x = mo_houseBy N p 4 name x from by exact ml_actn (by omega)]
        refine mw_steps X 2 (pc' := 93) (lv' := [(0, .ref b), (1, .int (nI p)), (2, .int name), (3, .int (nI y)), (4, .int (nI 4)), (5, .int x)]) (st' := [.int (nI 1), .int (nI 4)]) rfl ?_
        refine mw_icmp_ne X 101 rfl rfl (fun c93 => ?_) (fun c93 => absurd c93 (by decide))
        refine mw_steps X 2 (pc' := 103) (lv' := [(0, .ref b), (1, .int (nI p)), (2, .int name), (3, .int (nI y)), (4, .int (nI 4)), (5, .int x)]) (st' := [.int (nI p), .ref b]) rfl ?_
        refine mw_cV1v X kd_X3_letsOut kv_X3_letsOut kl_X3_189 (ci := 3) rfl rfl (Nat.le_of_ble_eq_true rfl) ⟨Nat.le_of_ble_eq_true rfl, Nat.le_of_ble_eq_true rfl⟩ ⟨Nat.le_of_ble_eq_true rfl, Nat.le_of_ble_eq_true rfl⟩ (fun _ h => h) (fun H h => ⟨⟨_, h.1⟩, zw_letOut hb h (c := c) hvB hp⟩) ?_
        refine mw_steps X 1 (pc' := 107) (lv' := [(0, .ref b), (1, .int (nI p)), (2, .int name), (3, .int (nI y)), (4, .int (nI 4)), (5, .int x)]) (st' := [.int (nI 0)]) rfl ?_
        have hq : mo_houseWhy W name y = 0 ∧ mo_house W p name y 4 x = mo_letOut (mo_houseBy N p 4 name x) p := (by have := ml_house_0 (W := W) (p := p) (y := y) (k := 4) (name := name) (x := x) (mo_b_nz c8) (mo_b_z c24); rw [← hG, ← hN] at this; exact this)
        exact mw_iret X rfl rfl (fun H h => ⟨by rw [hq.1], by rw [hq.2]; exact h⟩)
      · refine mw_steps X 2 (pc' := 77) (lv' := [(0, .ref b), (1, .int (nI p)), (2, .int name), (3, .int (nI y)), (4, .int (nI 4)), (5, .int x)]) (st' := [.int (nI p), .ref b]) rfl ?_
        refine mw_cV1v X kd_X3_houseDoubts kv_X3_houseDoubts kl_X3_183 (ci := 3) rfl rfl (Nat.le_of_ble_eq_true rfl) ⟨Nat.le_of_ble_eq_true rfl, Nat.le_of_ble_eq_true rfl⟩ ⟨Nat.le_of_ble_eq_true rfl, Nat.le_of_ble_eq_true rfl⟩ (fun _ h => h) (fun H h => ⟨⟨_, h.1⟩, zw_once hb h hvF hp⟩) ?_
        refine mw_steps X 5 (pc' := 87) (lv' := [(0, .ref b), (1, .int (nI p)), (2, .int name), (3, .int (nI y)), (4, .int (nI 4)), (5, .int x)]) (st' := [.int x, .int (nI 4), .int name, .int (nI p), .ref b]) rfl ?_
        rw [show mo_once (mo_folS G p 4 y) p = N from by rw [hN, ml_fol, if_pos (mo_b_nz c72)]]
        have hvA : iv (c + 12) (mo_act N p 4 name x) := by rw [ml_actn (by omega)]; exact hvB
        refine mw_cV4v X kd_X3_houseActs kv_X3_houseActs kl_X3_186 (ci := 3) rfl rfl (Nat.le_of_ble_eq_true rfl) ⟨Nat.le_of_ble_eq_true rfl, Nat.le_of_ble_eq_true rfl⟩ ⟨Nat.le_of_ble_eq_true rfl, Nat.le_of_ble_eq_true rfl⟩ (fun _ h => h) (fun H h => ⟨⟨_, h.1⟩, zw_act hb h (c := c + 12) hvN hp (by omega) hvx⟩) ?_
        rw [show mo_act N p 4 name x = mo_houseBy N p 4 name x from by exact ml_actn (by omega)]
        refine mw_steps X 2 (pc' := 93) (lv' := [(0, .ref b), (1, .int (nI p)), (2, .int name), (3, .int (nI y)), (4, .int (nI 4)), (5, .int x)]) (st' := [.int (nI 1), .int (nI 4)]) rfl ?_
        refine mw_icmp_ne X 101 rfl rfl (fun c93 => ?_) (fun c93 => absurd c93 (by decide))
        refine mw_steps X 2 (pc' := 103) (lv' := [(0, .ref b), (1, .int (nI p)), (2, .int name), (3, .int (nI y)), (4, .int (nI 4)), (5, .int x)]) (st' := [.int (nI p), .ref b]) rfl ?_
        refine mw_cV1v X kd_X3_letsOut kv_X3_letsOut kl_X3_189 (ci := 3) rfl rfl (Nat.le_of_ble_eq_true rfl) ⟨Nat.le_of_ble_eq_true rfl, Nat.le_of_ble_eq_true rfl⟩ ⟨Nat.le_of_ble_eq_true rfl, Nat.le_of_ble_eq_true rfl⟩ (fun _ h => h) (fun H h => ⟨⟨_, h.1⟩, zw_letOut hb h (c := c) hvB hp⟩) ?_
        refine mw_steps X 1 (pc' := 107) (lv' := [(0, .ref b), (1, .int (nI p)), (2, .int name), (3, .int (nI y)), (4, .int (nI 4)), (5, .int x)]) (st' := [.int (nI 0)]) rfl ?_
        have hq : mo_houseWhy W name y = 0 ∧ mo_house W p name y 4 x = mo_letOut (mo_houseBy N p 4 name x) p := (by have := ml_house_0 (W := W) (p := p) (y := y) (k := 4) (name := name) (x := x) (mo_b_nz c8) (mo_b_z c24); rw [← hG, ← hN] at this; exact this)
        exact mw_iret X rfl rfl (fun H h => ⟨by rw [hq.1], by rw [hq.2]; exact h⟩)
    · refine mw_steps X 1 (pc' := 28) (lv' := [(0, .ref b), (1, .int (nI p)), (2, .int name), (3, .int (nI y)), (4, .int (nI 4)), (5, .int x)]) (st' := [.int (nI 3)]) rfl ?_
      have hq : mo_houseWhy W name y = 3 ∧ mo_house W p name y 4 x = W := ml_house_3 (mo_b_nz c8) (mo_b_nz c24)
      exact mw_iret X rfl rfl (fun H h => ⟨by rw [hq.1], by rw [hq.2]; exact h⟩)
  · refine mw_steps X 1 (pc' := 12) (lv' := [(0, .ref b), (1, .int (nI p)), (2, .int name), (3, .int (nI y)), (4, .int (nI 4)), (5, .int x)]) (st' := [.int (nI 1)]) rfl ?_
    have hq : mo_houseWhy W name y = 1 ∧ mo_house W p name y 4 x = W := ml_house_1 (mo_b_z c8)
    exact mw_iret X rfl rfl (fun H h => ⟨by rw [hq.1], by rw [hq.2]; exact h⟩)
set_option maxHeartbeats 4000000 in
set_option maxRecDepth 20000 in
theorem zw_house5 {l : Launch} {Γ : mw_C} {b : Nat} (hb : Γ.2.2.2 ≤ b) {W : Nat → Int32} {sd : Int32} {H : Heap} {p y c : Nat} {name x : Int32} (hH : ws_I Γ b W sd H) (hv : iv (c + 25) W) (hp : p < 5) (hy : y < 32768) (hvx : iv_v 0 5 x) : mw_Cr l Γ mX3_houseTakes 5 0 0 (ws_A b) [.ref b, .int (nI p), .int name, .int (nI y), .int (nI 5), .int x] H (some (.int (nI (mo_houseWhy W name y)))) (ws_I Γ b (mo_house W p name y 5 x) sd) := by
  obtain ⟨G, hG⟩ : ∃ G, G = mo_houseGot W p 5 y := ⟨_, rfl⟩
  have hvG : iv (c + 25) G := by rw [hG]; exact iv_got hv hp
  obtain ⟨N, hN⟩ : ∃ N, N = mo_new G p 5 y := ⟨_, rfl⟩
  have hvN : iv (c + 24) N := by rw [hN]; exact iv_new (c := c + 24) hvG hp
  have hvF : iv (c + 25) (mo_folS G p 5 y) := iv_folS hvG hp
  have hvB : iv (c + 12) (mo_houseBy N p 5 name x) := iv_houseBy (c := c + 12) hvN hp (by omega) hvx
  refine mw_ofG (P := pX3_houseTakes) (by decide) (ws_As hb) oX3_houseTakes (Nat.le_of_ble_eq_true rfl) ?_
  intro pg e0 sg mg below meth cd X hs
  refine mw_pre (I' := ws_I Γ b W sd) (fun H1 h1 => by rw [h1]; exact hH) ?_
  refine mw_steps X 1 (pc' := 1) (lv' := [(0, .ref b), (1, .int (nI p)), (2, .int name), (3, .int (nI y)), (4, .int (nI 5)), (5, .int x)]) (st' := [.ref b]) rfl ?_
  refine mw_get X kf_X3_34.fl kc_3 rfl (v := .ref (b + 9)) (fun H h => ⟨_, h.1, rfl⟩) ?_
  refine mw_steps X 1 (pc' := 5) (lv' := [(0, .ref b), (1, .int (nI p)), (2, .int name), (3, .int (nI y)), (4, .int (nI 5)), (5, .int x)]) (st' := [.int name, .ref (b + 9)]) rfl ?_
  refine mw_cV1r X kd_X1_has kv_X1_has kl_X3_173 (ci := 1) rfl rfl (Nat.le_of_ble_eq_true rfl) ⟨Nat.le_of_ble_eq_true rfl, Nat.le_of_ble_eq_true rfl⟩ ⟨Nat.le_of_ble_eq_true rfl, Nat.le_of_ble_eq_true rfl⟩ (ws_sub 9 (by omega)) (fun H h => ⟨h.o_live, y5_has hb h⟩) ?_
  refine mw_top (y := mo_b (mo_live W name)) (congrArg mo_b (ml_liveC hv)) ?_
  refine mw_if_ne X 13 rfl rfl (fun c8 => ?_) (fun c8 => ?_)
  · refine mw_steps X 1 (pc' := 14) (lv' := [(0, .ref b), (1, .int (nI p)), (2, .int name), (3, .int (nI y)), (4, .int (nI 5)), (5, .int x)]) (st' := [.ref b]) rfl ?_
    refine mw_get X kf_X3_51.fl kc_3 rfl (v := .ref (b + 20)) (fun H h => ⟨_, h.1, rfl⟩) ?_
    refine mw_get X kf_X3_176 kc_0 rfl (v := .ref (b + 23)) (fun H h => ⟨_, h.2.2.2.2.2.2.2.2.2.2.2.1, rfl⟩) ?_
    refine mw_steps X 1 (pc' := 21) (lv' := [(0, .ref b), (1, .int (nI p)), (2, .int name), (3, .int (nI y)), (4, .int (nI 5)), (5, .int x)]) (st' := [.int (nI y), .ref (b + 23)]) rfl ?_
    refine mw_cV1r X kd_X1_has kv_X1_has kl_X3_173 (ci := 1) rfl rfl (Nat.le_of_ble_eq_true rfl) ⟨Nat.le_of_ble_eq_true rfl, Nat.le_of_ble_eq_true rfl⟩ ⟨Nat.le_of_ble_eq_true rfl, Nat.le_of_ble_eq_true rfl⟩ (ws_sub 23 (by omega)) (fun H h => ⟨h.o_taken1, y13_has hb h⟩) ?_
    refine mw_top (y := mo_b (mo_bit W 1 y)) (by rw [mo_bl_n hy (by omega), ml_n (by omega), Bool.true_and]) ?_
    refine mw_if_eq X 29 rfl rfl (fun c24 => ?_) (fun c24 => ?_)
    · refine mw_steps X 1 (pc' := 30) (lv' := [(0, .ref b), (1, .int (nI p)), (2, .int name), (3, .int (nI y)), (4, .int (nI 5)), (5, .int x)]) (st' := [.ref b]) rfl ?_
      refine mw_get X kf_X3_51.fl kc_3 rfl (v := .ref (b + 20)) (fun H h => ⟨_, h.1, rfl⟩) ?_
      refine mw_get X kf_X3_176 kc_0 rfl (v := .ref (b + 23)) (fun H h => ⟨_, h.2.2.2.2.2.2.2.2.2.2.2.1, rfl⟩) ?_
      refine mw_steps X 1 (pc' := 37) (lv' := [(0, .ref b), (1, .int (nI p)), (2, .int name), (3, .int (nI y)), (4, .int (nI 5)), (5, .int x)]) (st' := [.int (nI y), .ref (b + 23)]) rfl ?_
      refine mw_cV1v X kd_X1_add kv_X1_add kl_X3_73 (ci := 1) rfl rfl (Nat.le_of_ble_eq_true rfl) ⟨Nat.le_of_ble_eq_true rfl, Nat.le_of_ble_eq_true rfl⟩ ⟨Nat.le_of_ble_eq_true rfl, Nat.le_of_ble_eq_true rfl⟩ (ws_sub 23 (by omega)) (fun H h => ⟨h.o_taken1, y13_add (k := y) hb h hy⟩) ?_
      refine mw_steps X 1 (pc' := 41) (lv' := [(0, .ref b), (1, .int (nI p)), (2, .int name), (3, .int (nI y)), (4, .int (nI 5)), (5, .int x)]) (st' := [.ref b]) rfl ?_
      refine mw_get X kf_X3_26.fl kc_3 rfl (v := .ref (b + 7)) (fun H h => ⟨_, h.1, rfl⟩) ?_
      refine mw_steps X 3 (pc' := 47) (lv' := [(0, .ref b), (1, .int (nI p)), (2, .int name), (3, .int (nI y)), (4, .int (nI 5)), (5, .int x)]) (st' := [.ref b, .int (nI 3), .int (nI p), .ref (b + 7)]) rfl ?_
      refine mw_get X kf_X3_26.fl kc_3 rfl (v := .ref (b + 7)) (fun H h => ⟨_, h.1, rfl⟩) ?_
      refine mw_steps X 2 (pc' := 52) (lv' := [(0, .ref b), (1, .int (nI p)), (2, .int name), (3, .int (nI y)), (4, .int (nI 5)), (5, .int x)]) (st' := [.int (nI 3), .int (nI p), .ref (b + 7), .int (nI 3), .int (nI p), .ref (b + 7)]) rfl ?_
      refine mw_cV2r X kd_X2_at kv_X2_at kl_X3_98 (ci := 2) rfl rfl (Nat.le_of_ble_eq_true rfl) ⟨Nat.le_of_ble_eq_true rfl, Nat.le_of_ble_eq_true rfl⟩ ⟨Nat.le_of_ble_eq_true rfl, Nat.le_of_ble_eq_true rfl⟩ (ws_sub 7 (by omega)) (fun H h => ⟨h.o_places, y4_at3 hb h hp⟩) ?_
      refine mw_top (y := W (37 + p)) (ml_note_out (by omega)) ?_
      refine mw_steps X 1 (pc' := 57) (lv' := [(0, .ref b), (1, .int (nI p)), (2, .int name), (3, .int (nI y)), (4, .int (nI 5)), (5, .int x)]) (st' := [.int (nI 5), .int (W (37 + p)), .int (nI 3), .int (nI p), .ref (b + 7)]) rfl ?_
      refine mw_cS1r X kd_X3_sizeOf ks_X3_sizeOf kl_X3_149 rfl (Nat.le_of_ble_eq_true rfl) ⟨Nat.le_of_ble_eq_true rfl, Nat.le_of_ble_eq_true rfl⟩ ⟨Nat.le_of_ble_eq_true rfl, Nat.le_of_ble_eq_true rfl⟩ (fun _ h => h) (fun H h => zw_sizeOf hb (k := 5) (by omega) h) ?_
      refine mw_steps X 1 (pc' := 61) (lv' := [(0, .ref b), (1, .int (nI p)), (2, .int name), (3, .int (nI y)), (4, .int (nI 5)), (5, .int x)]) (st' := [.int ((W (37 + p)) + (mw_sz 5)), .int (nI 3), .int (nI p), .ref (b + 7)]) rfl ?_
      refine mw_cV3v X kd_X2_put kv_X2_put kl_X3_69 (ci := 2) rfl rfl (Nat.le_of_ble_eq_true rfl) ⟨Nat.le_of_ble_eq_true rfl, Nat.le_of_ble_eq_true rfl⟩ ⟨Nat.le_of_ble_eq_true rfl, Nat.le_of_ble_eq_true rfl⟩ (ws_sub 7 (by omega)) (fun H h => ⟨h.o_places, y4_put3 hb h hp⟩) ?_
      rw [show upd (mo_note W 1 y) (37 + p) ((W (37 + p)) + (mw_sz 5)) = G from hG.symm]
      refine mw_steps X 4 (pc' := 69) (lv' := [(0, .ref b), (1, .int (nI p)), (2, .int name), (3, .int (nI y)), (4, .int (nI 5)), (5, .int x)]) (st' := [.int (nI 5), .int (nI y), .int (nI p), .ref b]) rfl ?_
      refine mw_cV3r X kd_X3_houseFollows kv_X3_houseFollows kl_X3_179 (ci := 3) rfl rfl (Nat.le_of_ble_eq_true rfl) ⟨Nat.le_of_ble_eq_true rfl, Nat.le_of_ble_eq_true rfl⟩ ⟨Nat.le_of_ble_eq_true rfl, Nat.le_of_ble_eq_true rfl⟩ (fun _ h => h) (fun H h => ⟨⟨_, h.1⟩, zw_fol5 hb h hvG hp⟩) ?_
      refine mw_if_eq X 80 rfl rfl (fun c72 => ?_) (fun c72 => ?_)
      · refine mw_steps X 5 (pc' := 87) (lv' := [(0, .ref b), (1, .int (nI p)), (2, .int name), (3, .int (nI y)), (4, .int (nI 5)), (5, .int x)]) (st' := [.int x, .int (nI 5), .int name, .int (nI p), .ref b]) rfl ?_
        rw [show mo_folS G p 5 y = N from by rw [hN, ml_fol, if_neg (by rw [mo_b_z c72]; decide)]]
        have hvA : iv (c + 12) (mo_act N p 5 name x) := by rw [ml_actn (by omega)]; exact hvB
        refine mw_cV4v X kd_X3_houseActs kv_X3_houseActs kl_X3_186 (ci := 3) rfl rfl (Nat.le_of_ble_eq_true rfl) ⟨Nat.le_of_ble_eq_true rfl, Nat.le_of_ble_eq_true rfl⟩ ⟨Nat.le_of_ble_eq_true rfl, Nat.le_of_ble_eq_true rfl⟩ (fun _ h => h) (fun H h => ⟨⟨_, h.1⟩, zw_act hb h (c := c + 12) hvN hp (by omega) hvx⟩) ?_
        rw [show mo_act N p 5 name x = mo_houseBy N p 5 name x from by exact ml_actn (by omega)]
        refine mw_steps X 2 (pc' := 93) (lv' := [(0, .ref b), (1, .int (nI p)), (2, .int name), (3, .int (nI y)), (4, .int (nI 5)), (5, .int x)]) (st' := [.int (nI 1), .int (nI 5)]) rfl ?_
        refine mw_icmp_ne X 101 rfl rfl (fun c93 => ?_) (fun c93 => absurd c93 (by decide))
        refine mw_steps X 2 (pc' := 103) (lv' := [(0, .ref b), (1, .int (nI p)), (2, .int name), (3, .int (nI y)), (4, .int (nI 5)), (5, .int x)]) (st' := [.int (nI p), .ref b]) rfl ?_
        refine mw_cV1v X kd_X3_letsOut kv_X3_letsOut kl_X3_189 (ci := 3) rfl rfl (Nat.le_of_ble_eq_true rfl) ⟨Nat.le_of_ble_eq_true rfl, Nat.le_of_ble_eq_true rfl⟩ ⟨Nat.le_of_ble_eq_true rfl, Nat.le_of_ble_eq_true rfl⟩ (fun _ h => h) (fun H h => ⟨⟨_, h.1⟩, zw_letOut hb h (c := c) hvB hp⟩) ?_
        refine mw_steps X 1 (pc' := 107) (lv' := [(0, .ref b), (1, .int (nI p)), (2, .int name), (3, .int (nI y)), (4, .int (nI 5)), (5, .int x)]) (st' := [.int (nI 0)]) rfl ?_
        have hq : mo_houseWhy W name y = 0 ∧ mo_house W p name y 5 x = mo_letOut (mo_houseBy N p 5 name x) p := (by have := ml_house_0 (W := W) (p := p) (y := y) (k := 5) (name := name) (x := x) (mo_b_nz c8) (mo_b_z c24); rw [← hG, ← hN] at this; exact this)
        exact mw_iret X rfl rfl (fun H h => ⟨by rw [hq.1], by rw [hq.2]; exact h⟩)
      · refine mw_steps X 2 (pc' := 77) (lv' := [(0, .ref b), (1, .int (nI p)), (2, .int name), (3, .int (nI y)), (4, .int (nI 5)), (5, .int x)]) (st' := [.int (nI p), .ref b]) rfl ?_
        refine mw_cV1v X kd_X3_houseDoubts kv_X3_houseDoubts kl_X3_183 (ci := 3) rfl rfl (Nat.le_of_ble_eq_true rfl) ⟨Nat.le_of_ble_eq_true rfl, Nat.le_of_ble_eq_true rfl⟩ ⟨Nat.le_of_ble_eq_true rfl, Nat.le_of_ble_eq_true rfl⟩ (fun _ h => h) (fun H h => ⟨⟨_, h.1⟩, zw_once hb h hvF hp⟩) ?_
        refine mw_steps X 5 (pc' := 87) (lv' := [(0, .ref b), (1, .int (nI p)), (2, .int name), (3, .int (nI y)), (4, .int (nI 5)), (5, .int x)]) (st' := [.int x, .int (nI 5), .int name, .int (nI p), .ref b]) rfl ?_
        rw [show mo_once (mo_folS G p 5 y) p = N from by rw [hN, ml_fol, if_pos (mo_b_nz c72)]]
        have hvA : iv (c + 12) (mo_act N p 5 name x) := by rw [ml_actn (by omega)]; exact hvB
        refine mw_cV4v X kd_X3_houseActs kv_X3_houseActs kl_X3_186 (ci := 3) rfl rfl (Nat.le_of_ble_eq_true rfl) ⟨Nat.le_of_ble_eq_true rfl, Nat.le_of_ble_eq_true rfl⟩ ⟨Nat.le_of_ble_eq_true rfl, Nat.le_of_ble_eq_true rfl⟩ (fun _ h => h) (fun H h => ⟨⟨_, h.1⟩, zw_act hb h (c := c + 12) hvN hp (by omega) hvx⟩) ?_
        rw [show mo_act N p 5 name x = mo_houseBy N p 5 name x from by exact ml_actn (by omega)]
        refine mw_steps X 2 (pc' := 93) (lv' := [(0, .ref b), (1, .int (nI p)), (2, .int name), (3, .int (nI y)), (4, .int (nI 5)), (5, .int x)]) (st' := [.int (nI 1), .int (nI 5)]) rfl ?_
        refine mw_icmp_ne X 101 rfl rfl (fun c93 => ?_) (fun c93 => absurd c93 (by decide))
        refine mw_steps X 2 (pc' := 103) (lv' := [(0, .ref b), (1, .int (nI p)), (2, .int name), (3, .int (nI y)), (4, .int (nI 5)), (5, .int x)]) (st' := [.int (nI p), .ref b]) rfl ?_
        refine mw_cV1v X kd_X3_letsOut kv_X3_letsOut kl_X3_189 (ci := 3) rfl rfl (Nat.le_of_ble_eq_true rfl) ⟨Nat.le_of_ble_eq_true rfl, Nat.le_of_ble_eq_true rfl⟩ ⟨Nat.le_of_ble_eq_true rfl, Nat.le_of_ble_eq_true rfl⟩ (fun _ h => h) (fun H h => ⟨⟨_, h.1⟩, zw_letOut hb h (c := c) hvB hp⟩) ?_
        refine mw_steps X 1 (pc' := 107) (lv' := [(0, .ref b), (1, .int (nI p)), (2, .int name), (3, .int (nI y)), (4, .int (nI 5)), (5, .int x)]) (st' := [.int (nI 0)]) rfl ?_
        have hq : mo_houseWhy W name y = 0 ∧ mo_house W p name y 5 x = mo_letOut (mo_houseBy N p 5 name x) p := (by have := ml_house_0 (W := W) (p := p) (y := y) (k := 5) (name := name) (x := x) (mo_b_nz c8) (mo_b_z c24); rw [← hG, ← hN] at this; exact this)
        exact mw_iret X rfl rfl (fun H h => ⟨by rw [hq.1], by rw [hq.2]; exact h⟩)
    · refine mw_steps X 1 (pc' := 28) (lv' := [(0, .ref b), (1, .int (nI p)), (2, .int name), (3, .int (nI y)), (4, .int (nI 5)), (5, .int x)]) (st' := [.int (nI 3)]) rfl ?_
      have hq : mo_houseWhy W name y = 3 ∧ mo_house W p name y 5 x = W := ml_house_3 (mo_b_nz c8) (mo_b_nz c24)
      exact mw_iret X rfl rfl (fun H h => ⟨by rw [hq.1], by rw [hq.2]; exact h⟩)
  · refine mw_steps X 1 (pc' := 12) (lv' := [(0, .ref b), (1, .int (nI p)), (2, .int name), (3, .int (nI y)), (4, .int (nI 5)), (5, .int x)]) (st' := [.int (nI 1)]) rfl ?_
    have hq : mo_houseWhy W name y = 1 ∧ mo_house W p name y 5 x = W := ml_house_1 (mo_b_z c8)
    exact mw_iret X rfl rfl (fun H h => ⟨by rw [hq.1], by rw [hq.2]; exact h⟩)
theorem zw_house {l : Launch} {Γ : mw_C} {b : Nat} (hb : Γ.2.2.2 ≤ b) {W : Nat → Int32} {sd : Int32} {H : Heap} {p y k c : Nat} {name x : Int32} (hH : ws_I Γ b W sd H) (hv : iv (c + 25) W) (hp : p < 5) (hy : y < 32768) (hk : k < 6) (hvx : iv_v 0 k x) : mw_Cr l Γ mX3_houseTakes 5 0 0 (ws_A b) [.ref b, .int (nI p), .int name, .int (nI y), .int (nI k), .int x] H (some (.int (nI (mo_houseWhy W name y)))) (ws_I Γ b (mo_house W p name y k x) sd) := by
  rcases (show k = 0 ∨ k = 1 ∨ k = 2 ∨ k = 3 ∨ k = 4 ∨ k = 5 by omega) with rfl | rfl | rfl | rfl | rfl | rfl
  · exact zw_house0 hb hH hv hp hy hvx
  · exact zw_house1 hb hH hv hp hy hvx
  · exact zw_house2 hb hH hv hp hy hvx
  · exact zw_house3 hb hH hv hp hy hvx
  · exact zw_house4 hb hH hv hp hy hvx
  · exact zw_house5 hb hH hv hp hy hvx
