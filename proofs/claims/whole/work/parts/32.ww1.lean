set_option maxHeartbeats 4000000 in
set_option maxRecDepth 20000 in
theorem zw_endOf0 {l : Launch} {Γ : mw_C} {b : Nat} (hb : Γ.2.2.2 ≤ b) {W : Nat → Int32} {sd : Int32} {H : Heap}  (hH : ws_I Γ b W sd H)  : mw_Cr l Γ mX3_endOf 1 0 0 (ws_A b) [.ref b, .int (nI 0)] H (some (.ref (b + 15))) (ws_I Γ b W sd) := by
  refine mw_ofG (P := pX3_endOf) (by decide) (ws_As hb) oX3_endOf (Nat.le_of_ble_eq_true rfl) ?_
  intro pg e0 sg mg below meth cd X hs
  refine mw_pre (I' := ws_I Γ b W sd) (fun H1 h1 => by rw [h1]; exact hH) ?_
  refine mw_steps X 1 (pc' := 1) (lv' := [(0, .ref b), (1, .int (nI 0))]) (st' := [.int (nI 0)]) rfl ?_
  refine mw_if_ne X 11 rfl rfl (fun c1 => absurd (by decide) c1) (fun c1 => ?_)
  refine mw_steps X 1 (pc' := 5) (lv' := [(0, .ref b), (1, .int (nI 0))]) (st' := [.ref b]) rfl ?_
  refine mw_get X kf_X3_47.fl kc_3 rfl (v := .ref (b + 15)) (fun H h => ⟨_, h.1, rfl⟩) ?_
  refine mw_steps X 1 (pc' := 15) (lv' := [(0, .ref b), (1, .int (nI 0))]) (st' := [.ref (b + 15)]) rfl ?_
  exact mw_aret X rfl rfl (fun H h => ⟨rfl, h⟩)
set_option maxHeartbeats 4000000 in
set_option maxRecDepth 20000 in
theorem zw_endOf1 {l : Launch} {Γ : mw_C} {b : Nat} (hb : Γ.2.2.2 ≤ b) {W : Nat → Int32} {sd : Int32} {H : Heap}  (hH : ws_I Γ b W sd H)  : mw_Cr l Γ mX3_endOf 1 0 0 (ws_A b) [.ref b, .int (nI 1)] H (some (.ref (b + 20))) (ws_I Γ b W sd) := by
  refine mw_ofG (P := pX3_endOf) (by decide) (ws_As hb) oX3_endOf (Nat.le_of_ble_eq_true rfl) ?_
  intro pg e0 sg mg below meth cd X hs
  refine mw_pre (I' := ws_I Γ b W sd) (fun H1 h1 => by rw [h1]; exact hH) ?_
  refine mw_steps X 1 (pc' := 1) (lv' := [(0, .ref b), (1, .int (nI 1))]) (st' := [.int (nI 1)]) rfl ?_
  refine mw_if_ne X 11 rfl rfl (fun c1 => ?_) (fun c1 => absurd c1 (by decide))
  refine mw_steps X 1 (pc' := 12) (lv' := [(0, .ref b), (1, .int (nI 1))]) (st' := [.ref b]) rfl ?_
  refine mw_get X kf_X3_51.fl kc_3 rfl (v := .ref (b + 20)) (fun H h => ⟨_, h.1, rfl⟩) ?_
  exact mw_aret X rfl rfl (fun H h => ⟨rfl, h⟩)
set_option maxHeartbeats 4000000 in
set_option maxRecDepth 20000 in
theorem zw_sizeOf {l : Launch} {Γ : mw_C} {b : Nat} (hb : Γ.2.2.2 ≤ b) {H : Heap} {k : Nat} (hk : k < 6) {J : Heap → Prop} (hJ : J H) : mw_Cr l Γ mX3_sizeOf 1 0 0 (ws_A b) [.int (nI k)] H (some (.int (mw_sz k))) J := by
  refine mw_ofG (P := pX3_sizeOf) (by decide) (ws_As hb) oX3_sizeOf (Nat.le_of_ble_eq_true rfl) ?_
  intro pg e0 sg mg below meth cd X hs
  refine mw_pre (I' := J) (fun H1 h1 => by rw [h1]; exact hJ) ?_
  refine mw_steps X 1 (pc' := 1) (lv' := [(0, .int (nI k))]) (st' := [.int (nI k)]) rfl ?_
  refine mw_if_lt X 20 rfl rfl (fun c1 => absurd c1 (nI_pos (by omega))) (fun c1 => ?_)
  refine mw_steps X 1 (pc' := 5) (lv' := [(0, .int (nI k))]) (st' := [.int (nI k)]) rfl ?_
  refine mw_gets X rfl kf_X3_163 rfl ?_
  refine mw_szlen X rfl ?_
  refine mw_icmp_ge X 20 rfl rfl (fun c9 => absurd c9 (by rw [nI_leI (by omega) (by omega)]; omega)) (fun c9 => ?_)
  refine mw_gets X rfl kf_X3_163 rfl ?_
  refine mw_steps X 1 (pc' := 16) (lv' := [(0, .int (nI k))]) (st' := [.int (nI k), .ref Γ.2.2.1]) rfl ?_
  refine mw_szld X k rfl hk rfl ?_
  refine mw_steps X 1 (pc' := 21) (lv' := [(0, .int (nI k))]) (st' := [.int (mw_sz k)]) rfl ?_
  exact mw_iret X rfl rfl (fun H h => ⟨rfl, h⟩)
set_option maxHeartbeats 4000000 in
set_option maxRecDepth 20000 in
theorem zw_isOpen {l : Launch} {Γ : mw_C} {b : Nat} (hb : Γ.2.2.2 ≤ b) {W : Nat → Int32} {sd : Int32} {H : Heap} {p : Nat} (hH : ws_I Γ b W sd H) (hp : p < 5) : mw_Cr l Γ mX3_isOpen 2 0 0 (ws_A b) [.ref b, .int (nI p)] H (some (.int (mo_b (!decide (W (22 + p) = -1))))) (ws_I Γ b W sd) := by
  refine mw_ofG (P := pX3_isOpen) (by decide) (ws_As hb) oX3_isOpen (Nat.le_of_ble_eq_true rfl) ?_
  intro pg e0 sg mg below meth cd X hs
  refine mw_pre (I' := ws_I Γ b W sd) (fun H1 h1 => by rw [h1]; exact hH) ?_
  refine mw_steps X 1 (pc' := 1) (lv' := [(0, .ref b), (1, .int (nI p))]) (st' := [.ref b]) rfl ?_
  refine mw_get X kf_X3_26.fl kc_3 rfl (v := .ref (b + 7)) (fun H h => ⟨_, h.1, rfl⟩) ?_
  refine mw_steps X 2 (pc' := 6) (lv' := [(0, .ref b), (1, .int (nI p))]) (st' := [.int (nI 0), .int (nI p), .ref (b + 7)]) rfl ?_
  refine mw_cV2r X kd_X2_at kv_X2_at kl_X3_98 (ci := 2) rfl rfl (Nat.le_of_ble_eq_true rfl) ⟨Nat.le_of_ble_eq_true rfl, Nat.le_of_ble_eq_true rfl⟩ ⟨Nat.le_of_ble_eq_true rfl, Nat.le_of_ble_eq_true rfl⟩ (ws_sub 7 (by omega)) (fun H h => ⟨h.o_places, y4_at0 hb h hp⟩) ?_
  refine mw_steps X 1 (pc' := 10) (lv' := [(0, .ref b), (1, .int (nI p))]) (st' := [.int (-1), .int (W (22 + p))]) rfl ?_
  refine mw_icmp_eq X 17 rfl rfl (fun c10 => ?_) (fun c10 => ?_)
  · refine mw_steps X 1 (pc' := 18) (lv' := [(0, .ref b), (1, .int (nI p))]) (st' := [.int (nI 0)]) rfl ?_
    exact mw_zret X rfl (by decide) rfl (fun H h => ⟨by rw [show (!decide (W (22 + p) = -1)) = false from (by rw [decide_eq_true c10]; rfl)]; rfl, h⟩)
  · refine mw_steps X 2 (pc' := 18) (lv' := [(0, .ref b), (1, .int (nI p))]) (st' := [.int (nI 1)]) rfl ?_
    exact mw_zret X rfl (by decide) rfl (fun H h => ⟨by rw [show (!decide (W (22 + p) = -1)) = true from (by rw [decide_eq_false c10]; rfl)]; rfl, h⟩)
set_option maxHeartbeats 4000000 in
set_option maxRecDepth 20000 in
theorem zw_isProved {l : Launch} {Γ : mw_C} {b : Nat} (hb : Γ.2.2.2 ≤ b) {W : Nat → Int32} {sd : Int32} {H : Heap} {p : Nat} (hH : ws_I Γ b W sd H) (hp : p < 5) : mw_Cr l Γ mX3_isProved 2 0 0 (ws_A b) [.ref b, .int (nI p)] H (some (.int (mo_b (decide (W (32 + p) = nI 1))))) (ws_I Γ b W sd) := by
  refine mw_ofG (P := pX3_isProved) (by decide) (ws_As hb) oX3_isProved (Nat.le_of_ble_eq_true rfl) ?_
  intro pg e0 sg mg below meth cd X hs
  refine mw_pre (I' := ws_I Γ b W sd) (fun H1 h1 => by rw [h1]; exact hH) ?_
  refine mw_steps X 1 (pc' := 1) (lv' := [(0, .ref b), (1, .int (nI p))]) (st' := [.ref b]) rfl ?_
  refine mw_get X kf_X3_26.fl kc_3 rfl (v := .ref (b + 7)) (fun H h => ⟨_, h.1, rfl⟩) ?_
  refine mw_steps X 2 (pc' := 6) (lv' := [(0, .ref b), (1, .int (nI p))]) (st' := [.int (nI 2), .int (nI p), .ref (b + 7)]) rfl ?_
  refine mw_cV2r X kd_X2_at kv_X2_at kl_X3_98 (ci := 2) rfl rfl (Nat.le_of_ble_eq_true rfl) ⟨Nat.le_of_ble_eq_true rfl, Nat.le_of_ble_eq_true rfl⟩ ⟨Nat.le_of_ble_eq_true rfl, Nat.le_of_ble_eq_true rfl⟩ (ws_sub 7 (by omega)) (fun H h => ⟨h.o_places, y4_at2 hb h hp⟩) ?_
  refine mw_steps X 1 (pc' := 10) (lv' := [(0, .ref b), (1, .int (nI p))]) (st' := [.int (nI 1), .int (W (32 + p))]) rfl ?_
  refine mw_icmp_ne X 17 rfl rfl (fun c10 => ?_) (fun c10 => ?_)
  · refine mw_steps X 1 (pc' := 18) (lv' := [(0, .ref b), (1, .int (nI p))]) (st' := [.int (nI 0)]) rfl ?_
    exact mw_zret X rfl (by decide) rfl (fun H h => ⟨by rw [show (decide (W (32 + p) = nI 1)) = false from decide_eq_false c10]; rfl, h⟩)
  · refine mw_steps X 2 (pc' := 18) (lv' := [(0, .ref b), (1, .int (nI p))]) (st' := [.int (nI 1)]) rfl ?_
    exact mw_zret X rfl (by decide) rfl (fun H h => ⟨by rw [show (decide (W (32 + p) = nI 1)) = true from decide_eq_true c10]; rfl, h⟩)
set_option maxHeartbeats 4000000 in
set_option maxRecDepth 20000 in
theorem zw_isOpenN {l : Launch} {Γ : mw_C} {b : Nat} (hb : Γ.2.2.2 ≤ b) {W : Nat → Int32} {sd : Int32} {H : Heap}  (hH : ws_I Γ b W sd H)  : mw_Cr l Γ mX3_isOpen 2 0 0 (ws_A b) [.ref b, .int (-1)] H (some (.int (nI 0))) (ws_I Γ b W sd) := by
  refine mw_ofG (P := pX3_isOpen) (by decide) (ws_As hb) oX3_isOpen (Nat.le_of_ble_eq_true rfl) ?_
  intro pg e0 sg mg below meth cd X hs
  refine mw_pre (I' := ws_I Γ b W sd) (fun H1 h1 => by rw [h1]; exact hH) ?_
  refine mw_steps X 1 (pc' := 1) (lv' := [(0, .ref b), (1, .int (-1))]) (st' := [.ref b]) rfl ?_
  refine mw_get X kf_X3_26.fl kc_3 rfl (v := .ref (b + 7)) (fun H h => ⟨_, h.1, rfl⟩) ?_
  refine mw_steps X 2 (pc' := 6) (lv' := [(0, .ref b), (1, .int (-1))]) (st' := [.int (nI 0), .int (-1), .ref (b + 7)]) rfl ?_
  refine mw_cV2r X kd_X2_at kv_X2_at kl_X3_98 (ci := 2) rfl rfl (Nat.le_of_ble_eq_true rfl) ⟨Nat.le_of_ble_eq_true rfl, Nat.le_of_ble_eq_true rfl⟩ ⟨Nat.le_of_ble_eq_true rfl, Nat.le_of_ble_eq_true rfl⟩ (ws_sub 7 (by omega)) (fun H h => ⟨h.o_places, y4_atN hb h⟩) ?_
  refine mw_steps X 1 (pc' := 10) (lv' := [(0, .ref b), (1, .int (-1))]) (st' := [.int (-1), .int (-1)]) rfl ?_
  refine mw_icmp_eq X 17 rfl rfl (fun c10 => ?_) (fun c10 => absurd rfl c10)
  refine mw_steps X 1 (pc' := 18) (lv' := [(0, .ref b), (1, .int (-1))]) (st' := [.int (nI 0)]) rfl ?_
  exact mw_zret X rfl (by decide) rfl (fun H h => ⟨rfl, h⟩)
set_option maxHeartbeats 4000000 in
set_option maxRecDepth 20000 in
theorem zw_dropped {l : Launch} {Γ : mw_C} {b : Nat} (hb : Γ.2.2.2 ≤ b) {W : Nat → Int32} {sd : Int32} {H : Heap} {j : Nat} (hH : ws_I Γ b W sd H) (hj : j < 4) : mw_Cr l Γ mX3_droppedBy 1 0 0 (ws_A b) [.ref b, .int (nI j)] H (some (.int (if j = 0 then nI 0 else W (6 + j)))) (ws_I Γ b W sd) := by
  refine mw_ofG (P := pX3_droppedBy) (by decide) (ws_As hb) oX3_droppedBy (Nat.le_of_ble_eq_true rfl) ?_
  intro pg e0 sg mg below meth cd X hs
  refine mw_pre (I' := ws_I Γ b W sd) (fun H1 h1 => by rw [h1]; exact hH) ?_
  refine mw_steps X 1 (pc' := 1) (lv' := [(0, .ref b), (1, .int (nI j))]) (st' := [.int (nI j)]) rfl ?_
  refine mw_if_lt X 22 rfl rfl (fun c1 => absurd c1 (nI_pos (by omega))) (fun c1 => ?_)
  refine mw_steps X 2 (pc' := 6) (lv' := [(0, .ref b), (1, .int (nI j))]) (st' := [.ref b, .int (nI j)]) rfl ?_
  refine mw_get X kf_X3_54.fl kc_3 rfl (v := .ref (b + 25)) (fun H h => ⟨_, h.1, rfl⟩) ?_
  refine mw_ilen X 4 rfl (fun H h => ⟨_, h.2.2.2.2.2.2.2.2.2.2.2.2.2.2.choose_spec.1⟩) ?_
  refine mw_icmp_ge X 22 rfl rfl (fun c10 => absurd c10 (by rw [nI_leI (by omega) (by omega)]; omega)) (fun c10 => ?_)
  refine mw_steps X 1 (pc' := 14) (lv' := [(0, .ref b), (1, .int (nI j))]) (st' := [.ref b]) rfl ?_
  refine mw_get X kf_X3_54.fl kc_3 rfl (v := .ref (b + 25)) (fun H h => ⟨_, h.1, rfl⟩) ?_
  refine mw_steps X 1 (pc' := 18) (lv' := [(0, .ref b), (1, .int (nI j))]) (st' := [.int (nI j), .ref (b + 25)]) rfl ?_
  refine mw_iald X (v := if j = 0 then nI 0 else W (6 + j)) j rfl rfl (fun H h => by obtain ⟨f, f1, f2, f3⟩ := h.2.2.2.2.2.2.2.2.2.2.2.2.2.2; exact ⟨4, f, f1, hj, by decide, by by_cases q : j = 0; rw [if_pos q, q, f2]; rw [if_neg q, f3 j (by omega) hj]⟩) ?_
  refine mw_steps X 1 (pc' := 23) (lv' := [(0, .ref b), (1, .int (nI j))]) (st' := [.int (if j = 0 then nI 0 else W (6 + j))]) rfl ?_
  exact mw_iret X rfl rfl (fun H h => ⟨rfl, h⟩)
set_option maxHeartbeats 4000000 in
set_option maxRecDepth 20000 in
theorem zw_may {l : Launch} {Γ : mw_C} {b : Nat} (hb : Γ.2.2.2 ≤ b) {W : Nat → Int32} {sd : Int32} {H : Heap} {p k : Nat} (hH : ws_I Γ b W sd H) (hp : p < 5) (hk : k < 6) : mw_Cr l Γ mX3_mayGo 2 0 0 (ws_A b) [.ref b, .int (nI p), .int (nI k)] H (some (.int (mo_b (mo_may W p k)))) (ws_I Γ b W sd) := by
  refine mw_ofG (P := pX3_mayGo) (by decide) (ws_As hb) oX3_mayGo (Nat.le_of_ble_eq_true rfl) ?_
  intro pg e0 sg mg below meth cd X hs
  refine mw_pre (I' := ws_I Γ b W sd) (fun H1 h1 => by rw [h1]; exact hH) ?_
  refine mw_steps X 1 (pc' := 1) (lv' := [(0, .ref b), (1, .int (nI p)), (2, .int (nI k))]) (st' := [.ref b]) rfl ?_
  refine mw_get X kf_X3_26.fl kc_3 rfl (v := .ref (b + 7)) (fun H h => ⟨_, h.1, rfl⟩) ?_
  refine mw_steps X 2 (pc' := 6) (lv' := [(0, .ref b), (1, .int (nI p)), (2, .int (nI k))]) (st' := [.int (nI 2), .int (nI p), .ref (b + 7)]) rfl ?_
  refine mw_cV2r X kd_X2_at kv_X2_at kl_X3_98 (ci := 2) rfl rfl (Nat.le_of_ble_eq_true rfl) ⟨Nat.le_of_ble_eq_true rfl, Nat.le_of_ble_eq_true rfl⟩ ⟨Nat.le_of_ble_eq_true rfl, Nat.le_of_ble_eq_true rfl⟩ (ws_sub 7 (by omega)) (fun H h => ⟨h.o_places, y4_at2 hb h hp⟩) ?_
  refine mw_steps X 1 (pc' := 10) (lv' := [(0, .ref b), (1, .int (nI p)), (2, .int (nI k))]) (st' := [.int (nI 1), .int (W (32 + p))]) rfl ?_
  refine mw_icmp_eq X 41 rfl rfl (fun c10 => ?_) (fun c10 => ?_)
  · refine mw_steps X 2 (pc' := 46) (lv' := [(0, .ref b), (1, .int (nI p)), (2, .int (nI k))]) (st' := [.int (nI 1)]) rfl ?_
    exact mw_zret X rfl (by decide) rfl (fun H h => ⟨by rw [show mo_may W p k = true from (by first | exact ml_may_t1 c10 | exact ml_may_t2 c38)]; rfl, h⟩)
  · refine mw_steps X 1 (pc' := 14) (lv' := [(0, .ref b), (1, .int (nI p)), (2, .int (nI k))]) (st' := [.ref b]) rfl ?_
    refine mw_get X kf_X3_26.fl kc_3 rfl (v := .ref (b + 7)) (fun H h => ⟨_, h.1, rfl⟩) ?_
    refine mw_steps X 2 (pc' := 19) (lv' := [(0, .ref b), (1, .int (nI p)), (2, .int (nI k))]) (st' := [.int (nI 4), .int (nI p), .ref (b + 7)]) rfl ?_
    refine mw_cV2r X kd_X2_at kv_X2_at kl_X3_98 (ci := 2) rfl rfl (Nat.le_of_ble_eq_true rfl) ⟨Nat.le_of_ble_eq_true rfl, Nat.le_of_ble_eq_true rfl⟩ ⟨Nat.le_of_ble_eq_true rfl, Nat.le_of_ble_eq_true rfl⟩ (ws_sub 7 (by omega)) (fun H h => ⟨h.o_places, y4_at4 hb h hp⟩) ?_
    refine mw_steps X 1 (pc' := 23) (lv' := [(0, .ref b), (1, .int (nI p)), (2, .int (nI k))]) (st' := [.int (nI k), .int (W (42 + p))]) rfl ?_
    refine mw_cS1r X kd_X3_sizeOf ks_X3_sizeOf kl_X3_149 rfl (Nat.le_of_ble_eq_true rfl) ⟨Nat.le_of_ble_eq_true rfl, Nat.le_of_ble_eq_true rfl⟩ ⟨Nat.le_of_ble_eq_true rfl, Nat.le_of_ble_eq_true rfl⟩ (fun _ h => h) (fun H h => zw_sizeOf hb (k := k) hk h) ?_
    refine mw_steps X 3 (pc' := 29) (lv' := [(0, .ref b), (1, .int (nI p)), (2, .int (nI k))]) (st' := [.ref b, .int (nI 3), .int ((W (42 + p)) + (mw_sz k))]) rfl ?_
    refine mw_get X kf_X3_26.fl kc_3 rfl (v := .ref (b + 7)) (fun H h => ⟨_, h.1, rfl⟩) ?_
    refine mw_steps X 2 (pc' := 34) (lv' := [(0, .ref b), (1, .int (nI p)), (2, .int (nI k))]) (st' := [.int (nI 3), .int (nI p), .ref (b + 7), .int (nI 3), .int ((W (42 + p)) + (mw_sz k))]) rfl ?_
    refine mw_cV2r X kd_X2_at kv_X2_at kl_X3_98 (ci := 2) rfl rfl (Nat.le_of_ble_eq_true rfl) ⟨Nat.le_of_ble_eq_true rfl, Nat.le_of_ble_eq_true rfl⟩ ⟨Nat.le_of_ble_eq_true rfl, Nat.le_of_ble_eq_true rfl⟩ (ws_sub 7 (by omega)) (fun H h => ⟨h.o_places, y4_at3 hb h hp⟩) ?_
    refine mw_steps X 1 (pc' := 38) (lv' := [(0, .ref b), (1, .int (nI p)), (2, .int (nI k))]) (st' := [.int ((nI 3) * (W (37 + p))), .int ((W (42 + p)) + (mw_sz k))]) rfl ?_
    refine mw_icmp_gt X 45 rfl rfl (fun c38 => ?_) (fun c38 => ?_)
    · refine mw_steps X 1 (pc' := 46) (lv' := [(0, .ref b), (1, .int (nI p)), (2, .int (nI k))]) (st' := [.int (nI 0)]) rfl ?_
      exact mw_zret X rfl (by decide) rfl (fun H h => ⟨by rw [show mo_may W p k = false from (ml_may_f c10 c38)]; rfl, h⟩)
    · refine mw_steps X 2 (pc' := 46) (lv' := [(0, .ref b), (1, .int (nI p)), (2, .int (nI k))]) (st' := [.int (nI 1)]) rfl ?_
      exact mw_zret X rfl (by decide) rfl (fun H h => ⟨by rw [show mo_may W p k = true from (by first | exact ml_may_t1 c10 | exact ml_may_t2 c38)]; rfl, h⟩)
set_option maxHeartbeats 4000000 in
set_option maxRecDepth 20000 in
theorem zw_send0 {l : Launch} {Γ : mw_C} {b : Nat} (hb : Γ.2.2.2 ≤ b) {W : Nat → Int32} {sd : Int32} {H : Heap} {p k : Nat} {v : Int32} (hH : ws_I Γ b W sd H) (hc : iv_c W) (hp : p < 5) (hk : k < 6) : mw_Cr l Γ mX3_sends 2 0 0 (ws_A b) [.ref b, .int (nI 0), .int (nI p), .int (nI k), .int v] H none (ws_I Γ b (mo_send W 0 p k v) sd) := by
  obtain ⟨r, hr2, hr⟩ := hc.1
  have hrn : mo_n (W 11) = r := by rw [hr, ml_n (by omega)]
  refine mw_ofG (P := pX3_sends) (by decide) (ws_As hb) oX3_sends (Nat.le_of_ble_eq_true rfl) ?_
  intro pg e0 sg mg below meth cd X hs
  refine mw_pre (I' := ws_I Γ b W sd) (fun H1 h1 => by rw [h1]; exact hH) ?_
  refine mw_steps X 2 (pc' := 2) (lv' := [(0, .ref b), (1, .int (nI 0)), (2, .int (nI p)), (3, .int (nI k)), (4, .int v)]) (st' := [.int (nI 0), .ref b]) rfl ?_
  refine mw_cV1r X kd_X3_endOf kv_X3_endOf kl_X3_142 (ci := 3) rfl rfl (Nat.le_of_ble_eq_true rfl) ⟨Nat.le_of_ble_eq_true rfl, Nat.le_of_ble_eq_true rfl⟩ ⟨Nat.le_of_ble_eq_true rfl, Nat.le_of_ble_eq_true rfl⟩ (fun _ h => h) (fun H h => ⟨⟨_, h.1⟩, zw_endOf0 hb h⟩) ?_
  refine mw_steps X 2 (pc' := 9) (lv' := [(5, .ref (b + 15)), (0, .ref b), (1, .int (nI 0)), (2, .int (nI p)), (3, .int (nI k)), (4, .int v)]) (st' := [.ref (b + 15)]) rfl ?_
  refine mw_get X kf_X3_146 kc_0 rfl (v := .int (W (14))) (fun H h => ⟨_, h.2.2.2.2.2.2.2.2.1, congrArg (fun z => some (Value.int z)) rfl⟩) ?_
  refine mw_steps X 5 (pc' := 20) (lv' := [(6, .int (W (14))), (5, .ref (b + 15)), (0, .ref b), (1, .int (nI 0)), (2, .int (nI p)), (3, .int (nI k)), (4, .int v)]) (st' := [.int ((W (14)) + (nI 1)), .ref (b + 15)]) rfl ?_
  refine mw_put X kf_X3_146 kc_0 ⟨_, _, _, .int, rfl, rfl, by decide, rfl, rfl⟩ rfl (I1 := ws_I Γ b (upd W (14) ((W (14)) + (nI 1))) sd) (fun H h => ⟨ws_A0 (by omega), _, h.2.2.2.2.2.2.2.2.1, Nat.le_of_ble_eq_true rfl, fun H1 o c => h.s14 o c⟩) ?_
  refine mw_steps X 2 (pc' := 25) (lv' := [(6, .int (W (14))), (5, .ref (b + 15)), (0, .ref b), (1, .int (nI 0)), (2, .int (nI p)), (3, .int (nI k)), (4, .int v)]) (st' := [.int (nI 1), .int (nI 0)]) rfl ?_
  refine mw_icmp_ne X 51 rfl rfl (fun c25 => ?_) (fun c25 => absurd c25 (by decide))
  refine mw_steps X 1 (pc' := 52) (lv' := [(6, .int (W (14))), (5, .ref (b + 15)), (0, .ref b), (1, .int (nI 0)), (2, .int (nI p)), (3, .int (nI k)), (4, .int v)]) (st' := [.ref b]) rfl ?_
  refine mw_get X kf_X3_14.fl kc_3 rfl (v := .ref (b + 1)) (fun H h => ⟨_, h.1, rfl⟩) ?_
  refine mw_cV0r X kd_X2_isFull kv_X2_isFull kl_X3_135 (ci := 2) rfl rfl (Nat.le_of_ble_eq_true rfl) ⟨Nat.le_of_ble_eq_true rfl, Nat.le_of_ble_eq_true rfl⟩ ⟨Nat.le_of_ble_eq_true rfl, Nat.le_of_ble_eq_true rfl⟩ (ws_sub 1 (by omega)) (fun H h => ⟨h.o_road, y1_isFull hb h⟩) ?_
  refine mw_top (y := mo_b (decide (24 ≤ r))) (congrArg (fun z => mo_b (decide (24 ≤ z))) ((congrArg mo_n (by simp (disch := omega) only [pk_un])).trans hrn)) ?_
  refine mw_if_eq X 72 rfl rfl (fun c58 => ?_) (fun c58 => ?_)
  · have hr24 : ¬ 24 ≤ r := of_decide_eq_false (mo_b_z c58)
    refine mw_steps X 1 (pc' := 73) (lv' := [(6, .int (W (14))), (5, .ref (b + 15)), (0, .ref b), (1, .int (nI 0)), (2, .int (nI p)), (3, .int (nI k)), (4, .int v)]) (st' := [.int (nI 0)]) rfl ?_
    refine mw_if_ne X 88 rfl rfl (fun c73 => absurd (by decide) c73) (fun c73 => ?_)
    refine mw_steps X 1 (pc' := 77) (lv' := [(6, .int (W (14))), (5, .ref (b + 15)), (0, .ref b), (1, .int (nI 0)), (2, .int (nI p)), (3, .int (nI k)), (4, .int v)]) (st' := [.ref b]) rfl ?_
    refine mw_get X kf_X3_26.fl kc_3 rfl (v := .ref (b + 7)) (fun H h => ⟨_, h.1, rfl⟩) ?_
    refine mw_steps X 2 (pc' := 82) (lv' := [(6, .int (W (14))), (5, .ref (b + 15)), (0, .ref b), (1, .int (nI 0)), (2, .int (nI p)), (3, .int (nI k)), (4, .int v)]) (st' := [.int (nI 0), .int (nI p), .ref (b + 7)]) rfl ?_
    refine mw_cV2r X kd_X2_at kv_X2_at kl_X3_98 (ci := 2) rfl rfl (Nat.le_of_ble_eq_true rfl) ⟨Nat.le_of_ble_eq_true rfl, Nat.le_of_ble_eq_true rfl⟩ ⟨Nat.le_of_ble_eq_true rfl, Nat.le_of_ble_eq_true rfl⟩ (ws_sub 7 (by omega)) (fun H h => ⟨h.o_places, y4_at0 hb h hp⟩) ?_
    refine mw_top (y := W (22 + p)) (by simp (disch := omega) only [pk_un]) ?_
    refine mw_steps X 3 (pc' := 92) (lv' := [(7, .int (W (22 + p))), (6, .int (W (14))), (5, .ref (b + 15)), (0, .ref b), (1, .int (nI 0)), (2, .int (nI p)), (3, .int (nI k)), (4, .int v)]) (st' := [.ref b]) rfl ?_
    refine mw_get X kf_X3_14.fl kc_3 rfl (v := .ref (b + 1)) (fun H h => ⟨_, h.1, rfl⟩) ?_
    refine mw_steps X 6 (pc' := 104) (lv' := [(7, .int (W (22 + p))), (6, .int (W (14))), (5, .ref (b + 15)), (0, .ref b), (1, .int (nI 0)), (2, .int (nI p)), (3, .int (nI k)), (4, .int v)]) (st' := [.int v, .int (nI k), .int (W (14)), .int (W (22 + p)), .int (nI p), .int (nI 0), .ref (b + 1)]) rfl ?_
    refine mw_cV6v X kd_X2_add kv_X2_add kl_X3_65 (ci := 2) rfl rfl (Nat.le_of_ble_eq_true rfl) ⟨Nat.le_of_ble_eq_true rfl, Nat.le_of_ble_eq_true rfl⟩ ⟨Nat.le_of_ble_eq_true rfl, Nat.le_of_ble_eq_true rfl⟩ (ws_sub 1 (by omega)) (fun H h => ⟨h.o_road, y1_add hb h (by rw [show (upd W (14) ((W (14)) + (nI 1))) 11 = W (11) from (by simp (disch := omega) only [pk_un])]; exact (ml_i11 hc)) (by rw [((congrArg mo_n (by simp (disch := omega) only [pk_un])).trans hrn)]; omega)⟩) ?_
    exact mw_vret X rfl rfl (fun H h => ⟨rfl, by rw [show mo_send W 0 p k v = upd (mo_put (upd W (14) ((W (14)) + (nI 1))) (327 + 6 * mo_n ((upd W (14) ((W (14)) + (nI 1))) 11)) 6 (mo_r6 (nI 0) (nI p) (W (22 + p)) (W (14)) (nI k) v)) 11 ((upd W (14) ((W (14)) + (nI 1))) 11 + nI 1) from by unfold mo_send; rw [if_neg (show ¬ W 11 = nI 24 by rw [hr, nI_eq (by omega) (by omega)]; omega)]; simp (disch := omega) only [pk_us, pk_un, ↓reduceIte, Nat.add_zero]; try rfl]; exact h⟩)
  · have hr24 : r = 24 := by have := of_decide_eq_true (mo_b_nz c58); omega
    refine mw_steps X 2 (pc' := 63) (lv' := [(6, .int (W (14))), (5, .ref (b + 15)), (0, .ref b), (1, .int (nI 0)), (2, .int (nI p)), (3, .int (nI k)), (4, .int v)]) (st' := [.ref b, .ref b]) rfl ?_
    refine mw_get X kf_X3_92.fl kc_3 rfl (v := .int (W (10))) (fun H h => ⟨_, h.1, congrArg (fun z => some (Value.int z)) (by simp (disch := omega) only [pk_un])⟩) ?_
    refine mw_steps X 2 (pc' := 68) (lv' := [(6, .int (W (14))), (5, .ref (b + 15)), (0, .ref b), (1, .int (nI 0)), (2, .int (nI p)), (3, .int (nI k)), (4, .int v)]) (st' := [.int ((W (10)) + (nI 1)), .ref b]) rfl ?_
    refine mw_put X kf_X3_92.fl kc_3 ⟨_, _, _, .int, rfl, rfl, by decide, rfl, rfl⟩ rfl (I1 := ws_I Γ b (upd (upd W (14) ((W (14)) + (nI 1))) (10) ((W (10)) + (nI 1))) sd) (fun H h => ⟨ws_Ab, _, h.1, Nat.le_of_ble_eq_true rfl, fun H1 o c => h.s10 o c⟩) ?_
    exact mw_vret X rfl rfl (fun H h => ⟨rfl, by rw [show mo_send W 0 p k v = upd (upd W (14) ((W (14)) + (nI 1))) (10) ((W (10)) + (nI 1)) from by unfold mo_send; rw [if_pos (show W 11 = nI 24 by rw [hr]; exact congrArg nI hr24)]; rfl]; exact h⟩)
set_option maxHeartbeats 4000000 in
set_option maxRecDepth 20000 in
theorem zw_send1 {l : Launch} {Γ : mw_C} {b : Nat} (hb : Γ.2.2.2 ≤ b) {W : Nat → Int32} {sd : Int32} {H : Heap} {p k : Nat} {v : Int32} (hH : ws_I Γ b W sd H) (hc : iv_c W) (hp : p < 5) (hk : k < 6) : mw_Cr l Γ mX3_sends 2 0 0 (ws_A b) [.ref b, .int (nI 1), .int (nI p), .int (nI k), .int v] H none (ws_I Γ b (mo_send W 1 p k v) sd) := by
  obtain ⟨r, hr2, hr⟩ := hc.1
  have hrn : mo_n (W 11) = r := by rw [hr, ml_n (by omega)]
  refine mw_ofG (P := pX3_sends) (by decide) (ws_As hb) oX3_sends (Nat.le_of_ble_eq_true rfl) ?_
  intro pg e0 sg mg below meth cd X hs
  refine mw_pre (I' := ws_I Γ b W sd) (fun H1 h1 => by rw [h1]; exact hH) ?_
  refine mw_steps X 2 (pc' := 2) (lv' := [(0, .ref b), (1, .int (nI 1)), (2, .int (nI p)), (3, .int (nI k)), (4, .int v)]) (st' := [.int (nI 1), .ref b]) rfl ?_
  refine mw_cV1r X kd_X3_endOf kv_X3_endOf kl_X3_142 (ci := 3) rfl rfl (Nat.le_of_ble_eq_true rfl) ⟨Nat.le_of_ble_eq_true rfl, Nat.le_of_ble_eq_true rfl⟩ ⟨Nat.le_of_ble_eq_true rfl, Nat.le_of_ble_eq_true rfl⟩ (fun _ h => h) (fun H h => ⟨⟨_, h.1⟩, zw_endOf1 hb h⟩) ?_
  refine mw_steps X 2 (pc' := 9) (lv' := [(5, .ref (b + 20)), (0, .ref b), (1, .int (nI 1)), (2, .int (nI p)), (3, .int (nI k)), (4, .int v)]) (st' := [.ref (b + 20)]) rfl ?_
  refine mw_get X kf_X3_146 kc_0 rfl (v := .int (W (15))) (fun H h => ⟨_, h.2.2.2.2.2.2.2.2.2.2.2.1, congrArg (fun z => some (Value.int z)) rfl⟩) ?_
  refine mw_steps X 5 (pc' := 20) (lv' := [(6, .int (W (15))), (5, .ref (b + 20)), (0, .ref b), (1, .int (nI 1)), (2, .int (nI p)), (3, .int (nI k)), (4, .int v)]) (st' := [.int ((W (15)) + (nI 1)), .ref (b + 20)]) rfl ?_
  refine mw_put X kf_X3_146 kc_0 ⟨_, _, _, .int, rfl, rfl, by decide, rfl, rfl⟩ rfl (I1 := ws_I Γ b (upd W (15) ((W (15)) + (nI 1))) sd) (fun H h => ⟨ws_A0 (by omega), _, h.2.2.2.2.2.2.2.2.2.2.2.1, Nat.le_of_ble_eq_true rfl, fun H1 o c => h.s15 o c⟩) ?_
  refine mw_steps X 2 (pc' := 25) (lv' := [(6, .int (W (15))), (5, .ref (b + 20)), (0, .ref b), (1, .int (nI 1)), (2, .int (nI p)), (3, .int (nI k)), (4, .int v)]) (st' := [.int (nI 1), .int (nI 1)]) rfl ?_
  refine mw_icmp_ne X 51 rfl rfl (fun c25 => absurd (by decide) c25) (fun c25 => ?_)
  refine mw_steps X 1 (pc' := 29) (lv' := [(6, .int (W (15))), (5, .ref (b + 20)), (0, .ref b), (1, .int (nI 1)), (2, .int (nI p)), (3, .int (nI k)), (4, .int v)]) (st' := [.ref b]) rfl ?_
  refine mw_get X kf_X3_26.fl kc_3 rfl (v := .ref (b + 7)) (fun H h => ⟨_, h.1, rfl⟩) ?_
  refine mw_steps X 3 (pc' := 35) (lv' := [(6, .int (W (15))), (5, .ref (b + 20)), (0, .ref b), (1, .int (nI 1)), (2, .int (nI p)), (3, .int (nI k)), (4, .int v)]) (st' := [.ref b, .int (nI 4), .int (nI p), .ref (b + 7)]) rfl ?_
  refine mw_get X kf_X3_26.fl kc_3 rfl (v := .ref (b + 7)) (fun H h => ⟨_, h.1, rfl⟩) ?_
  refine mw_steps X 2 (pc' := 40) (lv' := [(6, .int (W (15))), (5, .ref (b + 20)), (0, .ref b), (1, .int (nI 1)), (2, .int (nI p)), (3, .int (nI k)), (4, .int v)]) (st' := [.int (nI 4), .int (nI p), .ref (b + 7), .int (nI 4), .int (nI p), .ref (b + 7)]) rfl ?_
  refine mw_cV2r X kd_X2_at kv_X2_at kl_X3_98 (ci := 2) rfl rfl (Nat.le_of_ble_eq_true rfl) ⟨Nat.le_of_ble_eq_true rfl, Nat.le_of_ble_eq_true rfl⟩ ⟨Nat.le_of_ble_eq_true rfl, Nat.le_of_ble_eq_true rfl⟩ (ws_sub 7 (by omega)) (fun H h => ⟨h.o_places, y4_at4 hb h hp⟩) ?_
  refine mw_top (y := W (42 + p)) (by simp (disch := omega) only [pk_un]) ?_
  refine mw_steps X 1 (pc' := 44) (lv' := [(6, .int (W (15))), (5, .ref (b + 20)), (0, .ref b), (1, .int (nI 1)), (2, .int (nI p)), (3, .int (nI k)), (4, .int v)]) (st' := [.int (nI k), .int (W (42 + p)), .int (nI 4), .int (nI p), .ref (b + 7)]) rfl ?_
  refine mw_cS1r X kd_X3_sizeOf ks_X3_sizeOf kl_X3_149 rfl (Nat.le_of_ble_eq_true rfl) ⟨Nat.le_of_ble_eq_true rfl, Nat.le_of_ble_eq_true rfl⟩ ⟨Nat.le_of_ble_eq_true rfl, Nat.le_of_ble_eq_true rfl⟩ (fun _ h => h) (fun H h => zw_sizeOf hb (k := k) hk h) ?_
  refine mw_steps X 1 (pc' := 48) (lv' := [(6, .int (W (15))), (5, .ref (b + 20)), (0, .ref b), (1, .int (nI 1)), (2, .int (nI p)), (3, .int (nI k)), (4, .int v)]) (st' := [.int ((W (42 + p)) + (mw_sz k)), .int (nI 4), .int (nI p), .ref (b + 7)]) rfl ?_
  refine mw_cV3v X kd_X2_put kv_X2_put kl_X3_69 (ci := 2) rfl rfl (Nat.le_of_ble_eq_true rfl) ⟨Nat.le_of_ble_eq_true rfl, Nat.le_of_ble_eq_true rfl⟩ ⟨Nat.le_of_ble_eq_true rfl, Nat.le_of_ble_eq_true rfl⟩ (ws_sub 7 (by omega)) (fun H h => ⟨h.o_places, y4_put4 hb h hp⟩) ?_
  refine mw_steps X 1 (pc' := 52) (lv' := [(6, .int (W (15))), (5, .ref (b + 20)), (0, .ref b), (1, .int (nI 1)), (2, .int (nI p)), (3, .int (nI k)), (4, .int v)]) (st' := [.ref b]) rfl ?_
  refine mw_get X kf_X3_14.fl kc_3 rfl (v := .ref (b + 1)) (fun H h => ⟨_, h.1, rfl⟩) ?_
  refine mw_cV0r X kd_X2_isFull kv_X2_isFull kl_X3_135 (ci := 2) rfl rfl (Nat.le_of_ble_eq_true rfl) ⟨Nat.le_of_ble_eq_true rfl, Nat.le_of_ble_eq_true rfl⟩ ⟨Nat.le_of_ble_eq_true rfl, Nat.le_of_ble_eq_true rfl⟩ (ws_sub 1 (by omega)) (fun H h => ⟨h.o_road, y1_isFull hb h⟩) ?_
  refine mw_top (y := mo_b (decide (24 ≤ r))) (congrArg (fun z => mo_b (decide (24 ≤ z))) ((congrArg mo_n (by simp (disch := omega) only [pk_un])).trans hrn)) ?_
  refine mw_if_eq X 72 rfl rfl (fun c58 => ?_) (fun c58 => ?_)
  · have hr24 : ¬ 24 ≤ r := of_decide_eq_false (mo_b_z c58)
    refine mw_steps X 1 (pc' := 73) (lv' := [(6, .int (W (15))), (5, .ref (b + 20)), (0, .ref b), (1, .int (nI 1)), (2, .int (nI p)), (3, .int (nI k)), (4, .int v)]) (st' := [.int (nI 1)]) rfl ?_
    refine mw_if_ne X 88 rfl rfl (fun c73 => ?_) (fun c73 => absurd c73 (by decide))
    refine mw_steps X 3 (pc' := 92) (lv' := [(7, .int (-1)), (6, .int (W (15))), (5, .ref (b + 20)), (0, .ref b), (1, .int (nI 1)), (2, .int (nI p)), (3, .int (nI k)), (4, .int v)]) (st' := [.ref b]) rfl ?_
    refine mw_get X kf_X3_14.fl kc_3 rfl (v := .ref (b + 1)) (fun H h => ⟨_, h.1, rfl⟩) ?_
    refine mw_steps X 6 (pc' := 104) (lv' := [(7, .int (-1)), (6, .int (W (15))), (5, .ref (b + 20)), (0, .ref b), (1, .int (nI 1)), (2, .int (nI p)), (3, .int (nI k)), (4, .int v)]) (st' := [.int v, .int (nI k), .int (W (15)), .int (-1), .int (nI p), .int (nI 1), .ref (b + 1)]) rfl ?_
    refine mw_cV6v X kd_X2_add kv_X2_add kl_X3_65 (ci := 2) rfl rfl (Nat.le_of_ble_eq_true rfl) ⟨Nat.le_of_ble_eq_true rfl, Nat.le_of_ble_eq_true rfl⟩ ⟨Nat.le_of_ble_eq_true rfl, Nat.le_of_ble_eq_true rfl⟩ (ws_sub 1 (by omega)) (fun H h => ⟨h.o_road, y1_add hb h (by rw [show (upd (upd W (15) ((W (15)) + (nI 1))) (42 + p) ((W (42 + p)) + (mw_sz k))) 11 = W (11) from (by simp (disch := omega) only [pk_un])]; exact (ml_i11 hc)) (by rw [((congrArg mo_n (by simp (disch := omega) only [pk_un])).trans hrn)]; omega)⟩) ?_
    exact mw_vret X rfl rfl (fun H h => ⟨rfl, by rw [show mo_send W 1 p k v = upd (mo_put (upd (upd W (15) ((W (15)) + (nI 1))) (42 + p) ((W (42 + p)) + (mw_sz k))) (327 + 6 * mo_n ((upd (upd W (15) ((W (15)) + (nI 1))) (42 + p) ((W (42 + p)) + (mw_sz k))) 11)) 6 (mo_r6 (nI 1) (nI p) (-1) (W (15)) (nI k) v)) 11 ((upd (upd W (15) ((W (15)) + (nI 1))) (42 + p) ((W (42 + p)) + (mw_sz k))) 11 + nI 1) from by unfold mo_send; rw [if_neg (show ¬ W 11 = nI 24 by rw [hr, nI_eq (by omega) (by omega)]; omega)]; simp (disch := omega) only [pk_us, pk_un, ↓reduceIte, Nat.add_zero]; try rfl]; exact h⟩)
  · have hr24 : r = 24 := by have := of_decide_eq_true (mo_b_nz c58); omega
    refine mw_steps X 2 (pc' := 63) (lv' := [(6, .int (W (15))), (5, .ref (b + 20)), (0, .ref b), (1, .int (nI 1)), (2, .int (nI p)), (3, .int (nI k)), (4, .int v)]) (st' := [.ref b, .ref b]) rfl ?_
    refine mw_get X kf_X3_92.fl kc_3 rfl (v := .int (W (10))) (fun H h => ⟨_, h.1, congrArg (fun z => some (Value.int z)) (by simp (disch := omega) only [pk_un])⟩) ?_
    refine mw_steps X 2 (pc' := 68) (lv' := [(6, .int (W (15))), (5, .ref (b + 20)), (0, .ref b), (1, .int (nI 1)), (2, .int (nI p)), (3, .int (nI k)), (4, .int v)]) (st' := [.int ((W (10)) + (nI 1)), .ref b]) rfl ?_
    refine mw_put X kf_X3_92.fl kc_3 ⟨_, _, _, .int, rfl, rfl, by decide, rfl, rfl⟩ rfl (I1 := ws_I Γ b (upd (upd (upd W (15) ((W (15)) + (nI 1))) (42 + p) ((W (42 + p)) + (mw_sz k))) (10) ((W (10)) + (nI 1))) sd) (fun H h => ⟨ws_Ab, _, h.1, Nat.le_of_ble_eq_true rfl, fun H1 o c => h.s10 o c⟩) ?_
    exact mw_vret X rfl rfl (fun H h => ⟨rfl, by rw [show mo_send W 1 p k v = upd (upd (upd W (15) ((W (15)) + (nI 1))) (42 + p) ((W (42 + p)) + (mw_sz k))) (10) ((W (10)) + (nI 1)) from by unfold mo_send; rw [if_pos (show W 11 = nI 24 by rw [hr]; exact congrArg nI hr24)]; simp (disch := omega) only [pk_us, pk_un]; rfl]; exact h⟩)
theorem zw_send {l : Launch} {Γ : mw_C} {b : Nat} (hb : Γ.2.2.2 ≤ b) {W : Nat → Int32} {sd : Int32} {H : Heap} {e p k : Nat} {v : Int32} (hH : ws_I Γ b W sd H) (hc : iv_c W) (he : e < 2) (hp : p < 5) (hk : k < 6) : mw_Cr l Γ mX3_sends 2 0 0 (ws_A b) [.ref b, .int (nI e), .int (nI p), .int (nI k), .int v] H none (ws_I Γ b (mo_send W e p k v) sd) := by
  match e, he with
  | 0, _ => exact zw_send0 hb hH hc hp hk
  | 1, _ => exact zw_send1 hb hH hc hp hk
  | e + 2, he => exact absurd he (by omega)
set_option maxHeartbeats 4000000 in
set_option maxRecDepth 20000 in
theorem zw_goes0 {l : Launch} {Γ : mw_C} {b : Nat} (hb : Γ.2.2.2 ≤ b) {W : Nat → Int32} {sd : Int32} {H : Heap} {p k : Nat} {v : Int32} (hH : ws_I Γ b W sd H) (hc : iv_c W) (hp : p < 5) (hk : k < 6) : mw_Cr l Γ mX3_writes 3 0 0 (ws_A b) [.ref b, .int (nI 0), .int (nI p), .int (nI k), .int v] H none (ws_I Γ b (mo_goes W 0 p k v) sd) := by
  obtain ⟨n, hn2, hn⟩ := hc.2.1
  have hnn : mo_n (W 12) = n := by rw [hn, ml_n (by omega)]
  refine mw_ofG (P := pX3_writes) (by decide) (ws_As hb) oX3_writes (Nat.le_of_ble_eq_true rfl) ?_
  intro pg e0 sg mg below meth cd X hs
  refine mw_pre (I' := ws_I Γ b W sd) (fun H1 h1 => by rw [h1]; exact hH) ?_
  refine mw_steps X 1 (pc' := 1) (lv' := [(0, .ref b), (1, .int (nI 0)), (2, .int (nI p)), (3, .int (nI k)), (4, .int v)]) (st' := [.int (nI 0)]) rfl ?_
  refine mw_if_eq X 13 rfl rfl (fun c1 => ?_) (fun c1 => absurd (by decide) c1)
  refine mw_steps X 5 (pc' := 19) (lv' := [(0, .ref b), (1, .int (nI 0)), (2, .int (nI p)), (3, .int (nI k)), (4, .int v)]) (st' := [.int v, .int (nI k), .int (nI p), .int (nI 0), .ref b]) rfl ?_
  refine mw_cV4v X kd_X3_sends kv_X3_sends kl_X3_131 (ci := 3) rfl rfl (Nat.le_of_ble_eq_true rfl) ⟨Nat.le_of_ble_eq_true rfl, Nat.le_of_ble_eq_true rfl⟩ ⟨Nat.le_of_ble_eq_true rfl, Nat.le_of_ble_eq_true rfl⟩ (fun _ h => h) (fun H h => ⟨⟨_, h.1⟩, zw_send0 hb h hc hp hk⟩) ?_
  exact mw_vret X rfl rfl (fun H h => ⟨rfl, by rw [show mo_goes W 0 p k v = mo_send W 0 p k v from by exact ml_goes_send0]; exact h⟩)
set_option maxHeartbeats 4000000 in
set_option maxRecDepth 20000 in
theorem zw_goes1 {l : Launch} {Γ : mw_C} {b : Nat} (hb : Γ.2.2.2 ≤ b) {W : Nat → Int32} {sd : Int32} {H : Heap} {p k : Nat} {v : Int32} (hH : ws_I Γ b W sd H) (hc : iv_c W) (hp : p < 5) (hk : k < 6) : mw_Cr l Γ mX3_writes 3 0 0 (ws_A b) [.ref b, .int (nI 1), .int (nI p), .int (nI k), .int v] H none (ws_I Γ b (mo_goes W 1 p k v) sd) := by
  obtain ⟨n, hn2, hn⟩ := hc.2.1
  have hnn : mo_n (W 12) = n := by rw [hn, ml_n (by omega)]
  refine mw_ofG (P := pX3_writes) (by decide) (ws_As hb) oX3_writes (Nat.le_of_ble_eq_true rfl) ?_
  intro pg e0 sg mg below meth cd X hs
  refine mw_pre (I' := ws_I Γ b W sd) (fun H1 h1 => by rw [h1]; exact hH) ?_
  refine mw_steps X 1 (pc' := 1) (lv' := [(0, .ref b), (1, .int (nI 1)), (2, .int (nI p)), (3, .int (nI k)), (4, .int v)]) (st' := [.int (nI 1)]) rfl ?_
  refine mw_if_eq X 13 rfl rfl (fun c1 => absurd c1 (by decide)) (fun c1 => ?_)
  refine mw_steps X 3 (pc' := 7) (lv' := [(0, .ref b), (1, .int (nI 1)), (2, .int (nI p)), (3, .int (nI k)), (4, .int v)]) (st' := [.int (nI k), .int (nI p), .ref b]) rfl ?_
  refine mw_cV2r X kd_X3_mayGo kv_X3_mayGo kl_X3_127 (ci := 3) rfl rfl (Nat.le_of_ble_eq_true rfl) ⟨Nat.le_of_ble_eq_true rfl, Nat.le_of_ble_eq_true rfl⟩ ⟨Nat.le_of_ble_eq_true rfl, Nat.le_of_ble_eq_true rfl⟩ (fun _ h => h) (fun H h => ⟨⟨_, h.1⟩, zw_may hb h hp hk⟩) ?_
  refine mw_if_eq X 23 rfl rfl (fun c10 => ?_) (fun c10 => ?_)
  · refine mw_steps X 1 (pc' := 24) (lv' := [(0, .ref b), (1, .int (nI 1)), (2, .int (nI p)), (3, .int (nI k)), (4, .int v)]) (st' := [.ref b]) rfl ?_
    refine mw_get X kf_X3_20.fl kc_3 rfl (v := .ref (b + 3)) (fun H h => ⟨_, h.1, rfl⟩) ?_
    refine mw_cV0r X kd_X2_isFull kv_X2_isFull kl_X3_135 (ci := 2) rfl rfl (Nat.le_of_ble_eq_true rfl) ⟨Nat.le_of_ble_eq_true rfl, Nat.le_of_ble_eq_true rfl⟩ ⟨Nat.le_of_ble_eq_true rfl, Nat.le_of_ble_eq_true rfl⟩ (ws_sub 3 (by omega)) (fun H h => ⟨h.o_waiting, y2_isFull hb h⟩) ?_
    refine mw_top (y := mo_b (decide (12 ≤ n))) (congrArg (fun z => mo_b (decide (12 ≤ z))) hnn) ?_
    refine mw_if_eq X 41 rfl rfl (fun c30 => ?_) (fun c30 => ?_)
    · have hn12 : ¬ 12 ≤ n := of_decide_eq_false (mo_b_z c30)
      refine mw_steps X 1 (pc' := 42) (lv' := [(0, .ref b), (1, .int (nI 1)), (2, .int (nI p)), (3, .int (nI k)), (4, .int v)]) (st' := [.ref b]) rfl ?_
      refine mw_get X kf_X3_20.fl kc_3 rfl (v := .ref (b + 3)) (fun H h => ⟨_, h.1, rfl⟩) ?_
      refine mw_steps X 6 (pc' := 52) (lv' := [(0, .ref b), (1, .int (nI 1)), (2, .int (nI p)), (3, .int (nI k)), (4, .int v)]) (st' := [.int (nI 0), .int (nI 0), .int (nI 0), .int v, .int (nI k), .int (nI p), .ref (b + 3)]) rfl ?_
      refine mw_cV6v X kd_X2_add kv_X2_add kl_X3_65 (ci := 2) rfl rfl (Nat.le_of_ble_eq_true rfl) ⟨Nat.le_of_ble_eq_true rfl, Nat.le_of_ble_eq_true rfl⟩ ⟨Nat.le_of_ble_eq_true rfl, Nat.le_of_ble_eq_true rfl⟩ (ws_sub 3 (by omega)) (fun H h => ⟨h.o_waiting, y2_add hb h (ml_i12 hc) (by rw [hnn]; omega)⟩) ?_
      exact mw_vret X rfl rfl (fun H h => ⟨rfl, by rw [show mo_goes W 1 p k v = upd (mo_put W (471 + 3 * mo_n (W 12)) 3 (mo_r3 (nI p) (nI k) v)) 12 (W 12 + nI 1) from by rw [ml_goes_hold (mo_b_z c10)]; unfold mo_hold; rw [if_neg (show ¬ W 12 = nI 12 by rw [hn, nI_eq (by omega) (by omega)]; omega)]]; exact h⟩)
    · have hn12 : n = 12 := by have := of_decide_eq_true (mo_b_nz c30); omega
      have hq12 : mo_rm W 471 3 12 0 12 = nI 11 := by rw [ml_rmh_q hn (by omega), hn12]
      refine mw_steps X 1 (pc' := 34) (lv' := [(0, .ref b), (1, .int (nI 1)), (2, .int (nI p)), (3, .int (nI k)), (4, .int v)]) (st' := [.ref b]) rfl ?_
      refine mw_get X kf_X3_20.fl kc_3 rfl (v := .ref (b + 3)) (fun H h => ⟨_, h.1, rfl⟩) ?_
      refine mw_steps X 1 (pc' := 38) (lv' := [(0, .ref b), (1, .int (nI 1)), (2, .int (nI p)), (3, .int (nI k)), (4, .int v)]) (st' := [.int (nI 0), .ref (b + 3)]) rfl ?_
      refine mw_cV1v X kd_X2_drop kv_X2_drop kl_X3_139 (ci := 2) rfl rfl (Nat.le_of_ble_eq_true rfl) ⟨Nat.le_of_ble_eq_true rfl, Nat.le_of_ble_eq_true rfl⟩ ⟨Nat.le_of_ble_eq_true rfl, Nat.le_of_ble_eq_true rfl⟩ (ws_sub 3 (by omega)) (fun H h => ⟨h.o_waiting, y2_drop hb h (ml_i12 hc) (by rw [hnn]; omega)⟩) ?_
      refine mw_steps X 1 (pc' := 42) (lv' := [(0, .ref b), (1, .int (nI 1)), (2, .int (nI p)), (3, .int (nI k)), (4, .int v)]) (st' := [.ref b]) rfl ?_
      refine mw_get X kf_X3_20.fl kc_3 rfl (v := .ref (b + 3)) (fun H h => ⟨_, h.1, rfl⟩) ?_
      refine mw_steps X 6 (pc' := 52) (lv' := [(0, .ref b), (1, .int (nI 1)), (2, .int (nI p)), (3, .int (nI k)), (4, .int v)]) (st' := [.int (nI 0), .int (nI 0), .int (nI 0), .int v, .int (nI k), .int (nI p), .ref (b + 3)]) rfl ?_
      refine mw_cV6v X kd_X2_add kv_X2_add kl_X3_65 (ci := 2) rfl rfl (Nat.le_of_ble_eq_true rfl) ⟨Nat.le_of_ble_eq_true rfl, Nat.le_of_ble_eq_true rfl⟩ ⟨Nat.le_of_ble_eq_true rfl, Nat.le_of_ble_eq_true rfl⟩ (ws_sub 3 (by omega)) (fun H h => ⟨h.o_waiting, y2_add hb h (by rw [hq12]; rfl) (by rw [(show mo_n (mo_rm W 471 3 12 0 12) = 11 by rw [hq12]; rfl)]; omega)⟩) ?_
      exact mw_vret X rfl rfl (fun H h => ⟨rfl, by rw [show mo_goes W 1 p k v = upd (mo_put (mo_rm W 471 3 12 0) (471 + 3 * mo_n ((mo_rm W 471 3 12 0) 12)) 3 (mo_r3 (nI p) (nI k) v)) 12 ((mo_rm W 471 3 12 0) 12 + nI 1) from by rw [ml_goes_hold (mo_b_z c10)]; unfold mo_hold; rw [if_pos (show W 12 = nI 12 by rw [hn]; exact congrArg nI hn12)]]; exact h⟩)
  · refine mw_steps X 5 (pc' := 19) (lv' := [(0, .ref b), (1, .int (nI 1)), (2, .int (nI p)), (3, .int (nI k)), (4, .int v)]) (st' := [.int v, .int (nI k), .int (nI p), .int (nI 1), .ref b]) rfl ?_
    refine mw_cV4v X kd_X3_sends kv_X3_sends kl_X3_131 (ci := 3) rfl rfl (Nat.le_of_ble_eq_true rfl) ⟨Nat.le_of_ble_eq_true rfl, Nat.le_of_ble_eq_true rfl⟩ ⟨Nat.le_of_ble_eq_true rfl, Nat.le_of_ble_eq_true rfl⟩ (fun _ h => h) (fun H h => ⟨⟨_, h.1⟩, zw_send1 hb h hc hp hk⟩) ?_
    exact mw_vret X rfl rfl (fun H h => ⟨rfl, by rw [show mo_goes W 1 p k v = mo_send W 1 p k v from by exact ml_goes_send (mo_b_nz c10)]; exact h⟩)
theorem zw_goes {l : Launch} {Γ : mw_C} {b : Nat} (hb : Γ.2.2.2 ≤ b) {W : Nat → Int32} {sd : Int32} {H : Heap} {e p k : Nat} {v : Int32} (hH : ws_I Γ b W sd H) (hc : iv_c W) (he : e < 2) (hp : p < 5) (hk : k < 6) : mw_Cr l Γ mX3_writes 3 0 0 (ws_A b) [.ref b, .int (nI e), .int (nI p), .int (nI k), .int v] H none (ws_I Γ b (mo_goes W e p k v) sd) := by
  match e, he with
  | 0, _ => exact zw_goes0 hb hH hc hp hk
  | 1, _ => exact zw_goes1 hb hH hc hp hk
  | e + 2, he => exact absurd he (by omega)
