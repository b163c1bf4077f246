set_option maxHeartbeats 400000 in
set_option maxRecDepth 20000 in
theorem zx_goOrOpen {l : Launch} {Γ : mw_C} {x : Nat} (hx : Γ.2.2.2 ≤ x) {W : Nat → Int32} {ρ : md_R} {H : Heap} {p c : Nat} (hH : mx_I Γ x W ρ H) (hv : iv c W) (hp : p < 5) : mw_Cr l Γ mX4_goOrOpen 5 0 0 (mx_A x) [.ref x, .int (nI p)] H none (mx_I Γ x (if 0 ≤ W (22 + p) then (op_go W (nI p)).2 else (op_open W (nI p)).2) ρ) := by
  have hb : Γ.2.2.2 ≤ x + 1 := by omega
  have hop := ml_opn hv hp
  refine mw_ofG (P := pX4_goOrOpen) (by decide) (mx_As hx) oX4_goOrOpen (Nat.le_of_ble_eq_true rfl) ?_
  intro pg e0 sg mg below meth cd X hs
  refine mw_pre (I' := mx_I Γ x W ρ) (fun H1 h1 => by rw [h1]; exact hH) ?_
  refine mw_steps X 1 (pc' := 1) (lv' := [(0, .ref x), (1, .int (nI p))]) (st' := [.ref x]) rfl ?_
  refine mw_get X kf_X4_10.fl kc_4 rfl (v := .ref (x + 1)) (fun H h => ⟨_, h.1, rfl⟩) ?_
  refine mw_steps X 1 (pc' := 5) (lv' := [(0, .ref x), (1, .int (nI p))]) (st' := [.int (nI p), .ref (x + 1)]) rfl ?_
  refine mw_cV1r X kd_X3_isOpen kv_X3_isOpen kl_X4_144 (ci := 3) rfl rfl (Nat.le_of_ble_eq_true rfl) ⟨Nat.le_of_ble_eq_true rfl, Nat.le_of_ble_eq_true rfl⟩ ⟨Nat.le_of_ble_eq_true rfl, Nat.le_of_ble_eq_true rfl⟩ (fun q z => mx_sub ((fun _ z => z) q z)) (fun H h => ⟨⟨_, h.2.1.1⟩, h.lift0 (fun _ z => z) (have h := h.2.1; zw_isOpen hb h hp)⟩) ?_
  refine mw_if_eq X 20 rfl rfl (fun c8 => ?_) (fun c8 => ?_)
  · refine mw_steps X 2 (pc' := 22) (lv' := [(0, .ref x), (1, .int (nI p))]) (st' := [.int (nI p), .ref x]) rfl ?_
    refine mw_cV1r X kd_X4_open kv_X4_open kl_X4_220 (ci := 4) rfl rfl (Nat.le_of_ble_eq_true rfl) ⟨Nat.le_of_ble_eq_true rfl, Nat.le_of_ble_eq_true rfl⟩ ⟨Nat.le_of_ble_eq_true rfl, Nat.le_of_ble_eq_true rfl⟩ (fun _ h => h) (fun H h => ⟨⟨_, h.1⟩, zx_open hx h hv⟩) ?_
    refine mw_steps X 1 (pc' := 26) (lv' := [(0, .ref x), (1, .int (nI p))]) (st' := []) rfl ?_
    exact mw_vret X rfl rfl (fun H h => ⟨rfl, by rw [if_neg (by have := mo_b_z c8; rw [hop] at this; exact of_decide_eq_false this)]; exact h⟩)
  · refine mw_steps X 2 (pc' := 13) (lv' := [(0, .ref x), (1, .int (nI p))]) (st' := [.int (nI p), .ref x]) rfl ?_
    refine mw_cV1r X kd_X4_go kv_X4_go kl_X4_217 (ci := 4) rfl rfl (Nat.le_of_ble_eq_true rfl) ⟨Nat.le_of_ble_eq_true rfl, Nat.le_of_ble_eq_true rfl⟩ ⟨Nat.le_of_ble_eq_true rfl, Nat.le_of_ble_eq_true rfl⟩ (fun _ h => h) (fun H h => ⟨⟨_, h.1⟩, zx_go hx h hv⟩) ?_
    refine mw_steps X 2 (pc' := 26) (lv' := [(0, .ref x), (1, .int (nI p))]) (st' := []) rfl ?_
    exact mw_vret X rfl rfl (fun H h => ⟨rfl, by rw [if_pos (by have := mo_b_nz c8; rw [hop] at this; exact of_decide_eq_true this)]; exact h⟩)
set_option maxHeartbeats 400000 in
set_option maxRecDepth 20000 in
theorem zx_chance {l : Launch} {Γ : mw_C} {x : Nat} (hx : Γ.2.2.2 ≤ x) {W : Nat → Int32} {ρ : md_R} {H : Heap} {c : Nat} (hH : mx_I Γ x W ρ H) (hv : iv (c + 25) W) (hs0 : 0 ≤ ρ.2.1) : mw_Cr l Γ mX4_drawOne 7 0 0 (mx_A x) [.ref x] H none (mx_I Γ x (op_chance W ρ.2.1).2.1 (ρ.1, (op_chance W ρ.2.1).2.2, ρ.2.2.1, ρ.2.2.2.1, ρ.2.2.2.2.1, ρ.2.2.2.2.2.1, ρ.2.2.2.2.2.2)) := by
  have hb : Γ.2.2.2 ≤ x + 1 := by omega
  obtain ⟨⟨j, hj, hd⟩, hs1⟩ := ml_drawE (n := 10) hs0 (by omega) (by omega)
  have hc2 : iv c W := hv.less (by omega)
  obtain ⟨r, hr2, hr⟩ := hv.1.1
  have hrn : mo_n (W 11) = r := by rw [hr, ml_n (by omega)]
  refine mw_ofG (P := pX4_drawOne) (by decide) (mx_As hx) oX4_drawOne (Nat.le_of_ble_eq_true rfl) ?_
  intro pg e0 sg mg below meth cd X hs
  refine mw_pre (I' := mx_I Γ x W ρ) (fun H1 h1 => by rw [h1]; exact hH) ?_
  refine mw_steps X 1 (pc' := 1) (lv' := [(0, .ref x)]) (st' := [.ref x]) rfl ?_
  refine mw_get X kf_X4_10.fl kc_4 rfl (v := .ref (x + 1)) (fun H h => ⟨_, h.1, rfl⟩) ?_
  refine mw_steps X 1 (pc' := 6) (lv' := [(0, .ref x)]) (st' := [.int (nI 10), .ref (x + 1)]) rfl ?_
  refine mw_cV1r X kd_X3_draw kv_X3_draw kl_X4_202 (ci := 3) rfl rfl (Nat.le_of_ble_eq_true rfl) ⟨Nat.le_of_ble_eq_true rfl, Nat.le_of_ble_eq_true rfl⟩ ⟨Nat.le_of_ble_eq_true rfl, Nat.le_of_ble_eq_true rfl⟩ (fun q z => mx_sub ((fun _ z => z) q z)) (fun H h => ⟨⟨_, h.2.1.1⟩, h.lift (fun _ z => z) (have h := h.2.1; zw_draw hb h hs0 (n := 10) (by omega) (by omega))⟩) ?_
  rw [hd]
  rcases (show j = 0 ∨ j = 1 ∨ j = 2 ∨ j = 3 ∨ j = 4 ∨ j = 5 ∨ j = 6 ∨ j = 7 ∨ j = 8 ∨ j = 9 by omega) with rfl | rfl | rfl | rfl | rfl | rfl | rfl | rfl | rfl | rfl
  · refine mw_steps X 2 (pc' := 11) (lv' := [(1, .int (nI 0)), (0, .ref x)]) (st' := [.int (nI 0)]) rfl ?_
    refine mw_tsOut X 145 rfl (Or.inl (by decide)) rfl ?_
    refine mw_steps X 1 (pc' := 146) (lv' := [(1, .int (nI 0)), (0, .ref x)]) (st' := [.ref x]) rfl ?_
    refine mw_get X kf_X4_10.fl kc_4 rfl (v := .ref (x + 1)) (fun H h => ⟨_, h.1, rfl⟩) ?_
    refine mw_get X kf_X4_33 kc_3 rfl (v := .ref (x + 1 + 1)) (fun H h => ⟨_, h.2.1.1, rfl⟩) ?_
    refine mw_cV0r X kd_X2_size kv_X2_size kl_X4_36 (ci := 2) rfl rfl (Nat.le_of_ble_eq_true rfl) ⟨Nat.le_of_ble_eq_true rfl, Nat.le_of_ble_eq_true rfl⟩ ⟨Nat.le_of_ble_eq_true rfl, Nat.le_of_ble_eq_true rfl⟩ (fun q z => mx_sub ((ws_sub 1 (by omega)) q z)) (fun H h => ⟨(have h := h.2.1; h.o_road), h.lift0 (ws_sub 1 (by omega)) (have h := h.2.1; y1_size hb h)⟩) ?_
    refine mw_top (y := nI r) (congrArg nI hrn) ?_
    refine mw_if_le X 183 rfl rfl (fun c155 => ?_) (fun c155 => ?_)
    · have hr0 : r = 0 := by rw [← nI_0, nI_leI (by omega) (by omega)] at c155; omega
      have hoa : (op_arrive W (-1)).2 = W := by unfold op_arrive; rw [if_neg (by unfold mo_bl; rw [decide_eq_false (show ¬ (0 : Int32) ≤ -1 by decide)]; simp)]
      have hop : (op_chance W ρ.2.1).2 = (W, mo_seed ρ.2.1) := by unfold op_chance; simp only [hd, if_pos (show nI 0 < nI 5 by decide), if_pos (show nI 0 < nI 4 by decide), hr, if_neg (show ¬ 0 < nI r by rw [hr0]; decide), hoa, ↓reduceIte]
      exact mw_vret X rfl rfl (fun H h => ⟨rfl, by rw [hop]; exact h⟩)
    · have hr0 : 0 < r := by have : ¬ r = 0 := fun q => c155 (by rw [q]; decide); omega
      obtain ⟨⟨k, hk, hdk⟩, -⟩ := ml_drawE (n := r) hs1 hr0 (by omega)
      have hk2 : k < mo_n (W 11) := by rw [hrn]; exact hk
      refine mw_steps X 1 (pc' := 159) (lv' := [(1, .int (nI 0)), (0, .ref x)]) (st' := [.ref x]) rfl ?_
      refine mw_get X kf_X4_10.fl kc_4 rfl (v := .ref (x + 1)) (fun H h => ⟨_, h.1, rfl⟩) ?_
      refine mw_steps X 1 (pc' := 163) (lv' := [(1, .int (nI 0)), (0, .ref x)]) (st' := [.ref x, .ref (x + 1)]) rfl ?_
      refine mw_get X kf_X4_10.fl kc_4 rfl (v := .ref (x + 1)) (fun H h => ⟨_, h.1, rfl⟩) ?_
      refine mw_steps X 1 (pc' := 167) (lv' := [(1, .int (nI 0)), (0, .ref x)]) (st' := [.ref x, .ref (x + 1), .ref (x + 1)]) rfl ?_
      refine mw_get X kf_X4_10.fl kc_4 rfl (v := .ref (x + 1)) (fun H h => ⟨_, h.1, rfl⟩) ?_
      refine mw_get X kf_X4_33 kc_3 rfl (v := .ref (x + 1 + 1)) (fun H h => ⟨_, h.2.1.1, rfl⟩) ?_
      refine mw_cV0r X kd_X2_size kv_X2_size kl_X4_36 (ci := 2) rfl rfl (Nat.le_of_ble_eq_true rfl) ⟨Nat.le_of_ble_eq_true rfl, Nat.le_of_ble_eq_true rfl⟩ ⟨Nat.le_of_ble_eq_true rfl, Nat.le_of_ble_eq_true rfl⟩ (fun q z => mx_sub ((ws_sub 1 (by omega)) q z)) (fun H h => ⟨(have h := h.2.1; h.o_road), h.lift0 (ws_sub 1 (by omega)) (have h := h.2.1; y1_size hb h)⟩) ?_
      refine mw_top (y := nI r) (congrArg nI hrn) ?_
      refine mw_cV1r X kd_X3_draw kv_X3_draw kl_X4_202 (ci := 3) rfl rfl (Nat.le_of_ble_eq_true rfl) ⟨Nat.le_of_ble_eq_true rfl, Nat.le_of_ble_eq_true rfl⟩ ⟨Nat.le_of_ble_eq_true rfl, Nat.le_of_ble_eq_true rfl⟩ (fun q z => mx_sub ((fun _ z => z) q z)) (fun H h => ⟨⟨_, h.2.1.1⟩, h.lift (fun _ z => z) (have h := h.2.1; zw_draw hb h hs1 (n := r) (by omega) (by omega))⟩) ?_
      refine mw_top (y := nI k) hdk ?_
      refine mw_cV1r X kd_X3_delivers kv_X3_delivers kl_X4_165 (ci := 3) rfl rfl (Nat.le_of_ble_eq_true rfl) ⟨Nat.le_of_ble_eq_true rfl, Nat.le_of_ble_eq_true rfl⟩ ⟨Nat.le_of_ble_eq_true rfl, Nat.le_of_ble_eq_true rfl⟩ (fun q z => mx_sub ((fun _ z => z) q z)) (fun H h => ⟨⟨_, h.2.1.1⟩, h.lift0 (fun _ z => z) (have h := h.2.1; zw_arr hb h (c := c) hv hk2)⟩) ?_
      refine mw_steps X 1 (pc' := 183) (lv' := [(1, .int (nI 0)), (0, .ref x)]) (st' := []) rfl ?_
      have hoa : (op_arrive W (nI k)).2 = mo_arr W k := by unfold op_arrive; rw [hrn, if_pos (mo_bl_n hk (by omega)), ml_n (by omega)]
      have hop : (op_chance W ρ.2.1).2 = (mo_arr W k, mo_seed (mo_seed ρ.2.1)) := by unfold op_chance; simp only [hd, if_pos (show nI 0 < nI 5 by decide), if_pos (show nI 0 < nI 4 by decide), hr, if_pos (show 0 < nI r by rw [← nI_0, nI_ltI (by omega) (by omega)]; exact hr0), hdk, hoa, ↓reduceIte]
      exact mw_vret X rfl rfl (fun H h => ⟨rfl, by rw [hop]; exact h⟩)
  · refine mw_steps X 2 (pc' := 11) (lv' := [(1, .int (nI 1)), (0, .ref x)]) (st' := [.int (nI 1)]) rfl ?_
    refine mw_tsOut X 145 rfl (Or.inl (by decide)) rfl ?_
    refine mw_steps X 1 (pc' := 146) (lv' := [(1, .int (nI 1)), (0, .ref x)]) (st' := [.ref x]) rfl ?_
    refine mw_get X kf_X4_10.fl kc_4 rfl (v := .ref (x + 1)) (fun H h => ⟨_, h.1, rfl⟩) ?_
    refine mw_get X kf_X4_33 kc_3 rfl (v := .ref (x + 1 + 1)) (fun H h => ⟨_, h.2.1.1, rfl⟩) ?_
    refine mw_cV0r X kd_X2_size kv_X2_size kl_X4_36 (ci := 2) rfl rfl (Nat.le_of_ble_eq_true rfl) ⟨Nat.le_of_ble_eq_true rfl, Nat.le_of_ble_eq_true rfl⟩ ⟨Nat.le_of_ble_eq_true rfl, Nat.le_of_ble_eq_true rfl⟩ (fun q z => mx_sub ((ws_sub 1 (by omega)) q z)) (fun H h => ⟨(have h := h.2.1; h.o_road), h.lift0 (ws_sub 1 (by omega)) (have h := h.2.1; y1_size hb h)⟩) ?_
    refine mw_top (y := nI r) (congrArg nI hrn) ?_
    refine mw_if_le X 183 rfl rfl (fun c155 => ?_) (fun c155 => ?_)
    · have hr0 : r = 0 := by rw [← nI_0, nI_leI (by omega) (by omega)] at c155; omega
      have hoa : (op_arrive W (-1)).2 = W := by unfold op_arrive; rw [if_neg (by unfold mo_bl; rw [decide_eq_false (show ¬ (0 : Int32) ≤ -1 by decide)]; simp)]
      have hop : (op_chance W ρ.2.1).2 = (W, mo_seed ρ.2.1) := by unfold op_chance; simp only [hd, if_pos (show nI 1 < nI 5 by decide), if_pos (show nI 1 < nI 4 by decide), hr, if_neg (show ¬ 0 < nI r by rw [hr0]; decide), hoa, ↓reduceIte]
      exact mw_vret X rfl rfl (fun H h => ⟨rfl, by rw [hop]; exact h⟩)
    · have hr0 : 0 < r := by have : ¬ r = 0 := fun q => c155 (by rw [q]; decide); omega
      obtain ⟨⟨k, hk, hdk⟩, -⟩ := ml_drawE (n := r) hs1 hr0 (by omega)
      have hk2 : k < mo_n (W 11) := by rw [hrn]; exact hk
      refine mw_steps X 1 (pc' := 159) (lv' := [(1, .int (nI 1)), (0, .ref x)]) (st' := [.ref x]) rfl ?_
      refine mw_get X kf_X4_10.fl kc_4 rfl (v := .ref (x + 1)) (fun H h => ⟨_, h.1, rfl⟩) ?_
      refine mw_steps X 1 (pc' := 163) (lv' := [(1, .int (nI 1)), (0, .ref x)]) (st' := [.ref x, .ref (x + 1)]) rfl ?_
      refine mw_get X kf_X4_10.fl kc_4 rfl (v := .ref (x + 1)) (fun H h => ⟨_, h.1, rfl⟩) ?_
      refine mw_steps X 1 (pc' := 167) (lv' := [(1, .int (nI 1)), (0, .ref x)]) (st' := [.ref x, .ref (x + 1), .ref (x + 1)]) rfl ?_
      refine mw_get X kf_X4_10.fl kc_4 rfl (v := .ref (x + 1)) (fun H h => ⟨_, h.1, rfl⟩) ?_
      refine mw_get X kf_X4_33 kc_3 rfl (v := .ref (x + 1 + 1)) (fun H h => ⟨_, h.2.1.1, rfl⟩) ?_
      refine mw_cV0r X kd_X2_size kv_X2_size kl_X4_36 (ci := 2) rfl rfl (Nat.le_of_ble_eq_true rfl) ⟨Nat.le_of_ble_eq_true rfl, Nat.le_of_ble_eq_true rfl⟩ ⟨Nat.le_of_ble_eq_true rfl, Nat.le_of_ble_eq_true rfl⟩ (fun q z => mx_sub ((ws_sub 1 (by omega)) q z)) (fun H h => ⟨(have h := h.2.1; h.o_road), h.lift0 (ws_sub 1 (by omega)) (have h := h.2.1; y1_size hb h)⟩) ?_
      refine mw_top (y := nI r) (congrArg nI hrn) ?_
      refine mw_cV1r X kd_X3_draw kv_X3_draw kl_X4_202 (ci := 3) rfl rfl (Nat.le_of_ble_eq_true rfl) ⟨Nat.le_of_ble_eq_true rfl, Nat.le_of_ble_eq_true rfl⟩ ⟨Nat.le_of_ble_eq_true rfl, Nat.le_of_ble_eq_true rfl⟩ (fun q z => mx_sub ((fun _ z => z) q z)) (fun H h => ⟨⟨_, h.2.1.1⟩, h.lift (fun _ z => z) (have h := h.2.1; zw_draw hb h hs1 (n := r) (by omega) (by omega))⟩) ?_
      refine mw_top (y := nI k) hdk ?_
      refine mw_cV1r X kd_X3_delivers kv_X3_delivers kl_X4_165 (ci := 3) rfl rfl (Nat.le_of_ble_eq_true rfl) ⟨Nat.le_of_ble_eq_true rfl, Nat.le_of_ble_eq_true rfl⟩ ⟨Nat.le_of_ble_eq_true rfl, Nat.le_of_ble_eq_true rfl⟩ (fun q z => mx_sub ((fun _ z => z) q z)) (fun H h => ⟨⟨_, h.2.1.1⟩, h.lift0 (fun _ z => z) (have h := h.2.1; zw_arr hb h (c := c) hv hk2)⟩) ?_
      refine mw_steps X 1 (pc' := 183) (lv' := [(1, .int (nI 1)), (0, .ref x)]) (st' := []) rfl ?_
      have hoa : (op_arrive W (nI k)).2 = mo_arr W k := by unfold op_arrive; rw [hrn, if_pos (mo_bl_n hk (by omega)), ml_n (by omega)]
      have hop : (op_chance W ρ.2.1).2 = (mo_arr W k, mo_seed (mo_seed ρ.2.1)) := by unfold op_chance; simp only [hd, if_pos (show nI 1 < nI 5 by decide), if_pos (show nI 1 < nI 4 by decide), hr, if_pos (show 0 < nI r by rw [← nI_0, nI_ltI (by omega) (by omega)]; exact hr0), hdk, hoa, ↓reduceIte]
      exact mw_vret X rfl rfl (fun H h => ⟨rfl, by rw [hop]; exact h⟩)
  · refine mw_steps X 2 (pc' := 11) (lv' := [(1, .int (nI 2)), (0, .ref x)]) (st' := [.int (nI 2)]) rfl ?_
    refine mw_tsOut X 145 rfl (Or.inl (by decide)) rfl ?_
    refine mw_steps X 1 (pc' := 146) (lv' := [(1, .int (nI 2)), (0, .ref x)]) (st' := [.ref x]) rfl ?_
    refine mw_get X kf_X4_10.fl kc_4 rfl (v := .ref (x + 1)) (fun H h => ⟨_, h.1, rfl⟩) ?_
    refine mw_get X kf_X4_33 kc_3 rfl (v := .ref (x + 1 + 1)) (fun H h => ⟨_, h.2.1.1, rfl⟩) ?_
    refine mw_cV0r X kd_X2_size kv_X2_size kl_X4_36 (ci := 2) rfl rfl (Nat.le_of_ble_eq_true rfl) ⟨Nat.le_of_ble_eq_true rfl, Nat.le_of_ble_eq_true rfl⟩ ⟨Nat.le_of_ble_eq_true rfl, Nat.le_of_ble_eq_true rfl⟩ (fun q z => mx_sub ((ws_sub 1 (by omega)) q z)) (fun H h => ⟨(have h := h.2.1; h.o_road), h.lift0 (ws_sub 1 (by omega)) (have h := h.2.1; y1_size hb h)⟩) ?_
    refine mw_top (y := nI r) (congrArg nI hrn) ?_
    refine mw_if_le X 183 rfl rfl (fun c155 => ?_) (fun c155 => ?_)
    · have hr0 : r = 0 := by rw [← nI_0, nI_leI (by omega) (by omega)] at c155; omega
      have hoa : (op_arrive W (-1)).2 = W := by unfold op_arrive; rw [if_neg (by unfold mo_bl; rw [decide_eq_false (show ¬ (0 : Int32) ≤ -1 by decide)]; simp)]
      have hop : (op_chance W ρ.2.1).2 = (W, mo_seed ρ.2.1) := by unfold op_chance; simp only [hd, if_pos (show nI 2 < nI 5 by decide), if_pos (show nI 2 < nI 4 by decide), hr, if_neg (show ¬ 0 < nI r by rw [hr0]; decide), hoa, ↓reduceIte]
      exact mw_vret X rfl rfl (fun H h => ⟨rfl, by rw [hop]; exact h⟩)
    · have hr0 : 0 < r := by have : ¬ r = 0 := fun q => c155 (by rw [q]; decide); omega
      obtain ⟨⟨k, hk, hdk⟩, -⟩ := ml_drawE (n := r) hs1 hr0 (by omega)
      have hk2 : k < mo_n (W 11) := by rw [hrn]; exact hk
      refine mw_steps X 1 (pc' := 159) (lv' := [(1, .int (nI 2)), (0, .ref x)]) (st' := [.ref x]) rfl ?_
      refine mw_get X kf_X4_10.fl kc_4 rfl (v := .ref (x + 1)) (fun H h => ⟨_, h.1, rfl⟩) ?_
      refine mw_steps X 1 (pc' := 163) (lv' := [(1, .int (nI 2)), (0, .ref x)]) (st' := [.ref x, .ref (x + 1)]) rfl ?_
      refine mw_get X kf_X4_10.fl kc_4 rfl (v := .ref (x + 1)) (fun H h => ⟨_, h.1, rfl⟩) ?_
      refine mw_steps X 1 (pc' := 167) (lv' := [(1, .int (nI 2)), (0, .ref x)]) (st' := [.ref x, .ref (x + 1), .ref (x + 1)]) rfl ?_
      refine mw_get X kf_X4_10.fl kc_4 rfl (v := .ref (x + 1)) (fun H h => ⟨_, h.1, rfl⟩) ?_
      refine mw_get X kf_X4_33 kc_3 rfl (v := .ref (x + 1 + 1)) (fun H h => ⟨_, h.2.1.1, rfl⟩) ?_
      refine mw_cV0r X kd_X2_size kv_X2_size kl_X4_36 (ci := 2) rfl rfl (Nat.le_of_ble_eq_true rfl) ⟨Nat.le_of_ble_eq_true rfl, Nat.le_of_ble_eq_true rfl⟩ ⟨Nat.le_of_ble_eq_true rfl, Nat.le_of_ble_eq_true rfl⟩ (fun q z => mx_sub ((ws_sub 1 (by omega)) q z)) (fun H h => ⟨(have h := h.2.1; h.o_road), h.lift0 (ws_sub 1 (by omega)) (have h := h.2.1; y1_size hb h)⟩) ?_
      refine mw_top (y := nI r) (congrArg nI hrn) ?_
      refine mw_cV1r X kd_X3_draw kv_X3_draw kl_X4_202 (ci := 3) rfl rfl (Nat.le_of_ble_eq_true rfl) ⟨Nat.le_of_ble_eq_true rfl, Nat.le_of_ble_eq_true rfl⟩ ⟨Nat.le_of_ble_eq_true rfl, Nat.le_of_ble_eq_true rfl⟩ (fun q z => mx_sub ((fun _ z => z) q z)) (fun H h => ⟨⟨_, h.2.1.1⟩, h.lift (fun _ z => z) (have h := h.2.1; zw_draw hb h hs1 (n := r) (by omega) (by omega))⟩) ?_
      refine mw_top (y := nI k) hdk ?_
      refine mw_cV1r X kd_X3_delivers kv_X3_delivers kl_X4_165 (ci := 3) rfl rfl (Nat.le_of_ble_eq_true rfl) ⟨Nat.le_of_ble_eq_true rfl, Nat.le_of_ble_eq_true rfl⟩ ⟨Nat.le_of_ble_eq_true rfl, Nat.le_of_ble_eq_true rfl⟩ (fun q z => mx_sub ((fun _ z => z) q z)) (fun H h => ⟨⟨_, h.2.1.1⟩, h.lift0 (fun _ z => z) (have h := h.2.1; zw_arr hb h (c := c) hv hk2)⟩) ?_
      refine mw_steps X 1 (pc' := 183) (lv' := [(1, .int (nI 2)), (0, .ref x)]) (st' := []) rfl ?_
      have hoa : (op_arrive W (nI k)).2 = mo_arr W k := by unfold op_arrive; rw [hrn, if_pos (mo_bl_n hk (by omega)), ml_n (by omega)]
      have hop : (op_chance W ρ.2.1).2 = (mo_arr W k, mo_seed (mo_seed ρ.2.1)) := by unfold op_chance; simp only [hd, if_pos (show nI 2 < nI 5 by decide), if_pos (show nI 2 < nI 4 by decide), hr, if_pos (show 0 < nI r by rw [← nI_0, nI_ltI (by omega) (by omega)]; exact hr0), hdk, hoa, ↓reduceIte]
      exact mw_vret X rfl rfl (fun H h => ⟨rfl, by rw [hop]; exact h⟩)
  · refine mw_steps X 2 (pc' := 11) (lv' := [(1, .int (nI 3)), (0, .ref x)]) (st' := [.int (nI 3)]) rfl ?_
    refine mw_tsOut X 145 rfl (Or.inl (by decide)) rfl ?_
    refine mw_steps X 1 (pc' := 146) (lv' := [(1, .int (nI 3)), (0, .ref x)]) (st' := [.ref x]) rfl ?_
    refine mw_get X kf_X4_10.fl kc_4 rfl (v := .ref (x + 1)) (fun H h => ⟨_, h.1, rfl⟩) ?_
    refine mw_get X kf_X4_33 kc_3 rfl (v := .ref (x + 1 + 1)) (fun H h => ⟨_, h.2.1.1, rfl⟩) ?_
    refine mw_cV0r X kd_X2_size kv_X2_size kl_X4_36 (ci := 2) rfl rfl (Nat.le_of_ble_eq_true rfl) ⟨Nat.le_of_ble_eq_true rfl, Nat.le_of_ble_eq_true rfl⟩ ⟨Nat.le_of_ble_eq_true rfl, Nat.le_of_ble_eq_true rfl⟩ (fun q z => mx_sub ((ws_sub 1 (by omega)) q z)) (fun H h => ⟨(have h := h.2.1; h.o_road), h.lift0 (ws_sub 1 (by omega)) (have h := h.2.1; y1_size hb h)⟩) ?_
    refine mw_top (y := nI r) (congrArg nI hrn) ?_
    refine mw_if_le X 183 rfl rfl (fun c155 => ?_) (fun c155 => ?_)
    · have hr0 : r = 0 := by rw [← nI_0, nI_leI (by omega) (by omega)] at c155; omega
      have hoa : (op_arrive W (-1)).2 = W := by unfold op_arrive; rw [if_neg (by unfold mo_bl; rw [decide_eq_false (show ¬ (0 : Int32) ≤ -1 by decide)]; simp)]
      have hop : (op_chance W ρ.2.1).2 = (W, mo_seed ρ.2.1) := by unfold op_chance; simp only [hd, if_pos (show nI 3 < nI 5 by decide), if_pos (show nI 3 < nI 4 by decide), hr, if_neg (show ¬ 0 < nI r by rw [hr0]; decide), hoa, ↓reduceIte]
      exact mw_vret X rfl rfl (fun H h => ⟨rfl, by rw [hop]; exact h⟩)
    · have hr0 : 0 < r := by have : ¬ r = 0 := fun q => c155 (by rw [q]; decide); omega
      obtain ⟨⟨k, hk, hdk⟩, -⟩ := ml_drawE (n := r) hs1 hr0 (by omega)
      have hk2 : k < mo_n (W 11) := by rw [hrn]; exact hk
      refine mw_steps X 1 (pc' := 159) (lv' := [(1, .int (nI 3)), (0, .ref x)]) (st' := [.ref x]) rfl ?_
      refine mw_get X kf_X4_10.fl kc_4 rfl (v := .ref (x + 1)) (fun H h => ⟨_, h.1, rfl⟩) ?_
      refine mw_steps X 1 (pc' := 163) (lv' := [(1, .int (nI 3)), (0, .ref x)]) (st' := [.ref x, .ref (x + 1)]) rfl ?_
      refine mw_get X kf_X4_10.fl kc_4 rfl (v := .ref (x + 1)) (fun H h => ⟨_, h.1, rfl⟩) ?_
      refine mw_steps X 1 (pc' := 167) (lv' := [(1, .int (nI 3)), (0, .ref x)]) (st' := [.ref x, .ref (x + 1), .ref (x + 1)]) rfl ?_
      refine mw_get X kf_X4_10.fl kc_4 rfl (v := .ref (x + 1)) (fun H h => ⟨_, h.1, rfl⟩) ?_
      refine mw_get X kf_X4_33 kc_3 rfl (v := .ref (x + 1 + 1)) (fun H h => ⟨_, h.2.1.1, rfl⟩) ?_
      refine mw_cV0r X kd_X2_size kv_X2_size kl_X4_36 (ci := 2) rfl rfl (Nat.le_of_ble_eq_true rfl) ⟨Nat.le_of_ble_eq_true rfl, Nat.le_of_ble_eq_true rfl⟩ ⟨Nat.le_of_ble_eq_true rfl, Nat.le_of_ble_eq_true rfl⟩ (fun q z => mx_sub ((ws_sub 1 (by omega)) q z)) (fun H h => ⟨(have h := h.2.1; h.o_road), h.lift0 (ws_sub 1 (by omega)) (have h := h.2.1; y1_size hb h)⟩) ?_
      refine mw_top (y := nI r) (congrArg nI hrn) ?_
      refine mw_cV1r X kd_X3_draw kv_X3_draw kl_X4_202 (ci := 3) rfl rfl (Nat.le_of_ble_eq_true rfl) ⟨Nat.le_of_ble_eq_true rfl, Nat.le_of_ble_eq_true rfl⟩ ⟨Nat.le_of_ble_eq_true rfl, Nat.le_of_ble_eq_true rfl⟩ (fun q z => mx_sub ((fun _ z => z) q z)) (fun H h => ⟨⟨_, h.2.1.1⟩, h.lift (fun _ z => z) (have h := h.2.1; zw_draw hb h hs1 (n := r) (by omega) (by omega))⟩) ?_
      refine mw_top (y := nI k) hdk ?_
      refine mw_cV1r X kd_X3_delivers kv_X3_delivers kl_X4_165 (ci := 3) rfl rfl (Nat.le_of_ble_eq_true rfl) ⟨Nat.le_of_ble_eq_true rfl, Nat.le_of_ble_eq_true rfl⟩ ⟨Nat.le_of_ble_eq_true rfl, Nat.le_of_ble_eq_true rfl⟩ (fun q z => mx_sub ((fun _ z => z) q z)) (fun H h => ⟨⟨_, h.2.1.1⟩, h.lift0 (fun _ z => z) (have h := h.2.1; zw_arr hb h (c := c) hv hk2)⟩) ?_
      refine mw_steps X 1 (pc' := 183) (lv' := [(1, .int (nI 3)), (0, .ref x)]) (st' := []) rfl ?_
      have hoa : (op_arrive W (nI k)).2 = mo_arr W k := by unfold op_arrive; rw [hrn, if_pos (mo_bl_n hk (by omega)), ml_n (by omega)]
      have hop : (op_chance W ρ.2.1).2 = (mo_arr W k, mo_seed (mo_seed ρ.2.1)) := by unfold op_chance; simp only [hd, if_pos (show nI 3 < nI 5 by decide), if_pos (show nI 3 < nI 4 by decide), hr, if_pos (show 0 < nI r by rw [← nI_0, nI_ltI (by omega) (by omega)]; exact hr0), hdk, hoa, ↓reduceIte]
      exact mw_vret X rfl rfl (fun H h => ⟨rfl, by rw [hop]; exact h⟩)
  · refine mw_steps X 2 (pc' := 11) (lv' := [(1, .int (nI 4)), (0, .ref x)]) (st' := [.int (nI 4)]) rfl ?_
    refine mw_tsInL X 4 4 rfl (by decide) (by decide) 48 rfl (by decide) rfl rfl ?_
    refine mw_steps X 1 (pc' := 49) (lv' := [(1, .int (nI 4)), (0, .ref x)]) (st' := [.ref x]) rfl ?_
    refine mw_get X kf_X4_10.fl kc_4 rfl (v := .ref (x + 1)) (fun H h => ⟨_, h.1, rfl⟩) ?_
    refine mw_get X kf_X4_33 kc_3 rfl (v := .ref (x + 1 + 1)) (fun H h => ⟨_, h.2.1.1, rfl⟩) ?_
    refine mw_cV0r X kd_X2_size kv_X2_size kl_X4_36 (ci := 2) rfl rfl (Nat.le_of_ble_eq_true rfl) ⟨Nat.le_of_ble_eq_true rfl, Nat.le_of_ble_eq_true rfl⟩ ⟨Nat.le_of_ble_eq_true rfl, Nat.le_of_ble_eq_true rfl⟩ (fun q z => mx_sub ((ws_sub 1 (by omega)) q z)) (fun H h => ⟨(have h := h.2.1; h.o_road), h.lift0 (ws_sub 1 (by omega)) (have h := h.2.1; y1_size hb h)⟩) ?_
    refine mw_top (y := nI r) (congrArg nI hrn) ?_
    refine mw_if_le X 183 rfl rfl (fun c58 => ?_) (fun c58 => ?_)
    · have hr0 : r = 0 := by rw [← nI_0, nI_leI (by omega) (by omega)] at c58; omega
      have hoa : (op_lose W (-1)).2 = W := by unfold op_lose; rw [if_neg (by unfold mo_bl; rw [decide_eq_false (show ¬ (0 : Int32) ≤ -1 by decide)]; simp)]
      have hop : (op_chance W ρ.2.1).2 = (W, mo_seed ρ.2.1) := by unfold op_chance; simp only [hd, if_pos (show nI 4 < nI 5 by decide), if_neg (show ¬ nI 4 < nI 4 by decide), hr, if_neg (show ¬ 0 < nI r by rw [hr0]; decide), hoa, ↓reduceIte]
      exact mw_vret X rfl rfl (fun H h => ⟨rfl, by rw [hop]; exact h⟩)
    · have hr0 : 0 < r := by have : ¬ r = 0 := fun q => c58 (by rw [q]; decide); omega
      obtain ⟨⟨k, hk, hdk⟩, -⟩ := ml_drawE (n := r) hs1 hr0 (by omega)
      have hk2 : k < mo_n (W 11) := by rw [hrn]; exact hk
      refine mw_steps X 1 (pc' := 62) (lv' := [(1, .int (nI 4)), (0, .ref x)]) (st' := [.ref x]) rfl ?_
      refine mw_get X kf_X4_10.fl kc_4 rfl (v := .ref (x + 1)) (fun H h => ⟨_, h.1, rfl⟩) ?_
      refine mw_steps X 1 (pc' := 66) (lv' := [(1, .int (nI 4)), (0, .ref x)]) (st' := [.ref x, .ref (x + 1)]) rfl ?_
      refine mw_get X kf_X4_10.fl kc_4 rfl (v := .ref (x + 1)) (fun H h => ⟨_, h.1, rfl⟩) ?_
      refine mw_steps X 1 (pc' := 70) (lv' := [(1, .int (nI 4)), (0, .ref x)]) (st' := [.ref x, .ref (x + 1), .ref (x + 1)]) rfl ?_
      refine mw_get X kf_X4_10.fl kc_4 rfl (v := .ref (x + 1)) (fun H h => ⟨_, h.1, rfl⟩) ?_
      refine mw_get X kf_X4_33 kc_3 rfl (v := .ref (x + 1 + 1)) (fun H h => ⟨_, h.2.1.1, rfl⟩) ?_
      refine mw_cV0r X kd_X2_size kv_X2_size kl_X4_36 (ci := 2) rfl rfl (Nat.le_of_ble_eq_true rfl) ⟨Nat.le_of_ble_eq_true rfl, Nat.le_of_ble_eq_true rfl⟩ ⟨Nat.le_of_ble_eq_true rfl, Nat.le_of_ble_eq_true rfl⟩ (fun q z => mx_sub ((ws_sub 1 (by omega)) q z)) (fun H h => ⟨(have h := h.2.1; h.o_road), h.lift0 (ws_sub 1 (by omega)) (have h := h.2.1; y1_size hb h)⟩) ?_
      refine mw_top (y := nI r) (congrArg nI hrn) ?_
      refine mw_cV1r X kd_X3_draw kv_X3_draw kl_X4_202 (ci := 3) rfl rfl (Nat.le_of_ble_eq_true rfl) ⟨Nat.le_of_ble_eq_true rfl, Nat.le_of_ble_eq_true rfl⟩ ⟨Nat.le_of_ble_eq_true rfl, Nat.le_of_ble_eq_true rfl⟩ (fun q z => mx_sub ((fun _ z => z) q z)) (fun H h => ⟨⟨_, h.2.1.1⟩, h.lift (fun _ z => z) (have h := h.2.1; zw_draw hb h hs1 (n := r) (by omega) (by omega))⟩) ?_
      refine mw_top (y := nI k) hdk ?_
      refine mw_cV1v X kd_X3_loses kv_X3_loses kl_X4_168 (ci := 3) rfl rfl (Nat.le_of_ble_eq_true rfl) ⟨Nat.le_of_ble_eq_true rfl, Nat.le_of_ble_eq_true rfl⟩ ⟨Nat.le_of_ble_eq_true rfl, Nat.le_of_ble_eq_true rfl⟩ (fun q z => mx_sub ((fun _ z => z) q z)) (fun H h => ⟨⟨_, h.2.1.1⟩, h.lift0 (fun _ z => z) (have h := h.2.1; zw_lose hb h hc2 hk2)⟩) ?_
      refine mw_steps X 1 (pc' := 183) (lv' := [(1, .int (nI 4)), (0, .ref x)]) (st' := []) rfl ?_
      have hoa : (op_lose W (nI k)).2 = mo_lose W k := by unfold op_lose; rw [hrn, if_pos (mo_bl_n hk (by omega)), ml_n (by omega)]
      have hop : (op_chance W ρ.2.1).2 = (mo_lose W k, mo_seed (mo_seed ρ.2.1)) := by unfold op_chance; simp only [hd, if_pos (show nI 4 < nI 5 by decide), if_neg (show ¬ nI 4 < nI 4 by decide), hr, if_pos (show 0 < nI r by rw [← nI_0, nI_ltI (by omega) (by omega)]; exact hr0), hdk, hoa, ↓reduceIte]
      exact mw_vret X rfl rfl (fun H h => ⟨rfl, by rw [hop]; exact h⟩)
  · refine mw_steps X 2 (pc' := 11) (lv' := [(1, .int (nI 5)), (0, .ref x)]) (st' := [.int (nI 5)]) rfl ?_
    refine mw_tsInL X 4 5 rfl (by decide) (by decide) 88 rfl (by decide) rfl rfl ?_
    refine mw_steps X 1 (pc' := 89) (lv' := [(1, .int (nI 5)), (0, .ref x)]) (st' := [.ref x]) rfl ?_
    refine mw_cV0r X kd_X4_say kv_X4_say kl_X4_205 (ci := 4) rfl rfl (Nat.le_of_ble_eq_true rfl) ⟨Nat.le_of_ble_eq_true rfl, Nat.le_of_ble_eq_true rfl⟩ ⟨Nat.le_of_ble_eq_true rfl, Nat.le_of_ble_eq_true rfl⟩ (fun _ h => h) (fun H h => ⟨⟨_, h.1⟩, zx_say hx h hc2⟩) ?_
    refine mw_steps X 2 (pc' := 183) (lv' := [(1, .int (nI 5)), (0, .ref x)]) (st' := []) rfl ?_
    have hop : (op_chance W ρ.2.1).2 = ((op_next W 0).2, mo_seed ρ.2.1) := by unfold op_chance; simp only [hd, if_neg (show ¬ nI 5 < nI 5 by decide), if_pos (show nI 5 = nI 5 from rfl), ↓reduceIte]
    exact mw_vret X rfl rfl (fun H h => ⟨rfl, by rw [hop]; exact h⟩)
  · refine mw_steps X 2 (pc' := 11) (lv' := [(1, .int (nI 6)), (0, .ref x)]) (st' := [.int (nI 6)]) rfl ?_
    refine mw_tsInL X 4 6 rfl (by decide) (by decide) 96 rfl (by decide) rfl rfl ?_
    refine mw_steps X 1 (pc' := 97) (lv' := [(1, .int (nI 6)), (0, .ref x)]) (st' := [.ref x]) rfl ?_
    refine mw_cV0r X kd_X4_speak kv_X4_speak kl_X4_208 (ci := 4) rfl rfl (Nat.le_of_ble_eq_true rfl) ⟨Nat.le_of_ble_eq_true rfl, Nat.le_of_ble_eq_true rfl⟩ ⟨Nat.le_of_ble_eq_true rfl, Nat.le_of_ble_eq_true rfl⟩ (fun _ h => h) (fun H h => ⟨⟨_, h.1⟩, zx_speak hx h hc2⟩) ?_
    refine mw_steps X 2 (pc' := 183) (lv' := [(1, .int (nI 6)), (0, .ref x)]) (st' := []) rfl ?_
    have hop : (op_chance W ρ.2.1).2 = ((op_next W 1).2, mo_seed ρ.2.1) := by unfold op_chance; simp only [hd, if_neg (show ¬ nI 6 < nI 5 by decide), if_neg (show ¬ nI 6 = nI 5 by decide), if_pos (show nI 6 = nI 6 from rfl), ↓reduceIte]
    exact mw_vret X rfl rfl (fun H h => ⟨rfl, by rw [hop]; exact h⟩)
  · refine mw_steps X 2 (pc' := 11) (lv' := [(1, .int (nI 7)), (0, .ref x)]) (st' := [.int (nI 7)]) rfl ?_
    refine mw_tsInL X 4 7 rfl (by decide) (by decide) 104 rfl (by decide) rfl rfl ?_
    refine mw_steps X 1 (pc' := 105) (lv' := [(1, .int (nI 7)), (0, .ref x)]) (st' := [.ref x]) rfl ?_
    refine mw_get X kf_X4_10.fl kc_4 rfl (v := .ref (x + 1)) (fun H h => ⟨_, h.1, rfl⟩) ?_
    refine mw_cV0v X kd_X3_passes kv_X3_passes kl_X4_182 (ci := 3) rfl rfl (Nat.le_of_ble_eq_true rfl) ⟨Nat.le_of_ble_eq_true rfl, Nat.le_of_ble_eq_true rfl⟩ ⟨Nat.le_of_ble_eq_true rfl, Nat.le_of_ble_eq_true rfl⟩ (fun q z => mx_sub ((fun _ z => z) q z)) (fun H h => ⟨⟨_, h.2.1.1⟩, h.lift0 (fun _ z => z) (have h := h.2.1; zw_tick hb h (c := c) (hv.less (by omega)))⟩) ?_
    refine mw_steps X 1 (pc' := 183) (lv' := [(1, .int (nI 7)), (0, .ref x)]) (st' := []) rfl ?_
    have hop : (op_chance W ρ.2.1).2 = (mo_tick W, mo_seed ρ.2.1) := by unfold op_chance; simp only [hd, if_neg (show ¬ nI 7 < nI 5 by decide), if_neg (show ¬ nI 7 = nI 5 by decide), if_neg (show ¬ nI 7 = nI 6 by decide), if_pos (show nI 7 = nI 7 from rfl), ↓reduceIte]
    exact mw_vret X rfl rfl (fun H h => ⟨rfl, by rw [hop]; exact h⟩)
  · refine mw_steps X 2 (pc' := 11) (lv' := [(1, .int (nI 8)), (0, .ref x)]) (st' := [.int (nI 8)]) rfl ?_
    refine mw_tsInL X 4 8 rfl (by decide) (by decide) 114 rfl (by decide) rfl rfl ?_
    refine mw_steps X 2 (pc' := 116) (lv' := [(1, .int (nI 8)), (0, .ref x)]) (st' := [.ref x, .ref x]) rfl ?_
    refine mw_get X kf_X4_10.fl kc_4 rfl (v := .ref (x + 1)) (fun H h => ⟨_, h.1, rfl⟩) ?_
    refine mw_steps X 1 (pc' := 120) (lv' := [(1, .int (nI 8)), (0, .ref x)]) (st' := [.int (nI 5), .ref (x + 1), .ref x]) rfl ?_
    refine mw_cV1r X kd_X3_draw kv_X3_draw kl_X4_202 (ci := 3) rfl rfl (Nat.le_of_ble_eq_true rfl) ⟨Nat.le_of_ble_eq_true rfl, Nat.le_of_ble_eq_true rfl⟩ ⟨Nat.le_of_ble_eq_true rfl, Nat.le_of_ble_eq_true rfl⟩ (fun q z => mx_sub ((fun _ z => z) q z)) (fun H h => ⟨⟨_, h.2.1.1⟩, h.lift (fun _ z => z) (have h := h.2.1; zw_draw hb h hs1 (n := 5) (by omega) (by omega))⟩) ?_
    obtain ⟨⟨p, hp, hp2⟩, -⟩ := ml_drawE (n := 5) hs1 (by omega) (by omega)
    refine mw_top (y := nI p) hp2 ?_
    refine mw_cV1v X kd_X4_goOrOpen kv_X4_goOrOpen kl_X4_211 (ci := 4) rfl rfl (Nat.le_of_ble_eq_true rfl) ⟨Nat.le_of_ble_eq_true rfl, Nat.le_of_ble_eq_true rfl⟩ ⟨Nat.le_of_ble_eq_true rfl, Nat.le_of_ble_eq_true rfl⟩ (fun _ h => h) (fun H h => ⟨⟨_, h.1⟩, zx_goOrOpen hx h hc2 hp⟩) ?_
    refine mw_steps X 1 (pc' := 183) (lv' := [(1, .int (nI 8)), (0, .ref x)]) (st' := []) rfl ?_
    have hop : (op_chance W ρ.2.1).2 = ((if 0 ≤ W (22 + p) then (op_go W (nI p)).2 else (op_open W (nI p)).2), mo_seed (mo_seed ρ.2.1)) := by
      unfold op_chance
      simp only [hd, if_neg (show ¬ nI 8 < nI 5 by decide), if_neg (show ¬ nI 8 = nI 5 by decide), if_neg (show ¬ nI 8 = nI 6 by decide), if_neg (show ¬ nI 8 = nI 7 by decide), if_pos (show nI 8 = nI 8 from rfl), hp2, ml_n (show p ≤ 100000 by omega), ↓reduceIte]
      by_cases q8 : 0 ≤ W (22 + p)
      · rw [if_pos q8, if_pos q8]
      · rw [if_neg q8, if_neg q8]
    exact mw_vret X rfl rfl (fun H h => ⟨rfl, by rw [hop]; exact h⟩)
  · refine mw_steps X 2 (pc' := 11) (lv' := [(1, .int (nI 9)), (0, .ref x)]) (st' := [.int (nI 9)]) rfl ?_
    refine mw_tsInL X 4 9 rfl (by decide) (by decide) 129 rfl (by decide) rfl rfl ?_
    refine mw_steps X 2 (pc' := 131) (lv' := [(1, .int (nI 9)), (0, .ref x)]) (st' := [.ref x, .ref x]) rfl ?_
    refine mw_get X kf_X4_10.fl kc_4 rfl (v := .ref (x + 1)) (fun H h => ⟨_, h.1, rfl⟩) ?_
    refine mw_steps X 1 (pc' := 135) (lv' := [(1, .int (nI 9)), (0, .ref x)]) (st' := [.int (nI 2), .ref (x + 1), .ref x]) rfl ?_
    refine mw_cV1r X kd_X3_draw kv_X3_draw kl_X4_202 (ci := 3) rfl rfl (Nat.le_of_ble_eq_true rfl) ⟨Nat.le_of_ble_eq_true rfl, Nat.le_of_ble_eq_true rfl⟩ ⟨Nat.le_of_ble_eq_true rfl, Nat.le_of_ble_eq_true rfl⟩ (fun q z => mx_sub ((fun _ z => z) q z)) (fun H h => ⟨⟨_, h.2.1.1⟩, h.lift (fun _ z => z) (have h := h.2.1; zw_draw hb h hs1 (n := 2) (by omega) (by omega))⟩) ?_
    refine mw_cV1r X kd_X4_again kv_X4_again kl_X4_214 (ci := 4) rfl rfl (Nat.le_of_ble_eq_true rfl) ⟨Nat.le_of_ble_eq_true rfl, Nat.le_of_ble_eq_true rfl⟩ ⟨Nat.le_of_ble_eq_true rfl, Nat.le_of_ble_eq_true rfl⟩ (fun _ h => h) (fun H h => ⟨⟨_, h.1⟩, zx_again hx h hc2⟩) ?_
    refine mw_steps X 2 (pc' := 183) (lv' := [(1, .int (nI 9)), (0, .ref x)]) (st' := []) rfl ?_
    have hop : (op_chance W ρ.2.1).2 = ((op_again W (mo_draw (mo_seed ρ.2.1) (nI 2))).2, mo_seed (mo_seed ρ.2.1)) := by unfold op_chance; simp only [hd, if_neg (show ¬ nI 9 < nI 5 by decide), if_neg (show ¬ nI 9 = nI 5 by decide), if_neg (show ¬ nI 9 = nI 6 by decide), if_neg (show ¬ nI 9 = nI 7 by decide), if_neg (show ¬ nI 9 = nI 8 by decide), ↓reduceIte]
    exact mw_vret X rfl rfl (fun H h => ⟨rfl, by rw [hop]; exact h⟩)
set_option maxHeartbeats 400000 in
set_option maxRecDepth 20000 in
theorem zx_drift {l : Launch} {Γ : mw_C} {x : Nat} (hx : Γ.2.2.2 ≤ x) {W : Nat → Int32} {ρ : md_R} {H : Heap} {y : Int32} (hH : mx_I Γ x W ρ H) (hd : ∀ i, i ≤ 20 → iv 40 (mo_dr i (W, ρ.2.1)).1 ∧ 0 ≤ (mo_dr i (W, ρ.2.1)).2) : mw_Cr l Γ mX4_drift 8 0 0 (mx_A x) [.ref x, .int y] H (some (.int (op_drift W ρ.2.1 y).1)) (mx_I Γ x (op_drift W ρ.2.1 y).2.1 (ρ.1, (op_drift W ρ.2.1 y).2.2, ρ.2.2.1, ρ.2.2.2.1, ρ.2.2.2.2.1, ρ.2.2.2.2.2.1, ρ.2.2.2.2.2.2)) := by
  have hb : Γ.2.2.2 ≤ x + 1 := by omega
  refine mw_ofG (P := pX4_drift) (by decide) (mx_As hx) oX4_drift (Nat.le_of_ble_eq_true rfl) ?_
  intro pg e0 sg mg below meth cd X hs
  refine mw_pre (I' := mx_I Γ x W ρ) (fun H1 h1 => by rw [h1]; exact hH) ?_
  refine mw_steps X 2 (pc' := 2) (lv' := [(0, .ref x), (1, .int y)]) (st' := [.int (nI 1), .int y]) rfl ?_
  refine mw_icmp_lt X 11 rfl rfl (fun c2 => ?_) (fun c2 => ?_)
  · refine mw_ldc X kk_X4_94 rfl ?_
    have hop : op_drift W ρ.2.1 y = (oO, W, ρ.2.1) := by unfold op_drift; rw [if_neg (by rw [ml_in_bl]; first | (rw [decide_eq_false (Int32.not_le.mpr c2)]; simp) | (rw [decide_eq_false c8]; simp))]
    exact mw_iret X rfl rfl (fun H h => ⟨by rw [hop], by rw [hop]; exact h⟩)
  · refine mw_steps X 2 (pc' := 8) (lv' := [(0, .ref x), (1, .int y)]) (st' := [.int (nI 20), .int y]) rfl ?_
    refine mw_icmp_le X 14 rfl rfl (fun c8 => ?_) (fun c8 => ?_)
    · have hin : mo_in y.toInt64 1 20 = true := by rw [ml_in_bl, decide_eq_true (Int32.not_lt.mp c2), decide_eq_true c8]; rfl
      obtain ⟨n, hn1, hn2, rfl⟩ := ml_in20 hin
      refine mw_steps X 2 (pc' := 16) (lv' := [(2, .int (nI 0)), (0, .ref x), (1, .int (nI n))]) (st' := []) rfl ?_
      refine mw_wf (fun t => n - t) (fun t => t ≤ n) (fun t => mx_I Γ x (mo_dr t (W, ρ.2.1)).1 (ρ.1, (mo_dr t (W, ρ.2.1)).2, ρ.2.2.1, ρ.2.2.2.1, ρ.2.2.2.2.1, ρ.2.2.2.2.2.1, ρ.2.2.2.2.2.2)) (fun t => [(2, .int (nI t)), (0, .ref x), (1, .int (nI n))]) (fun t ht ih => ?_) 0 (Nat.zero_le _)
      refine mw_steps X 2 (pc' := 18) (lv' := [(2, .int (nI t)), (0, .ref x), (1, .int (nI n))]) (st' := [.int (nI n), .int (nI t)]) rfl ?_
      refine mw_icmp_ge X 31 rfl rfl (fun c18 => ?_) (fun c18 => ?_)
      · have htn : t = n := by rw [nI_leI (by omega) (by omega)] at c18; omega
        refine mw_steps X 1 (pc' := 32) (lv' := [(2, .int (nI t)), (0, .ref x), (1, .int (nI n))]) (st' := [.ref x]) rfl ?_
        refine mw_get X kf_X4_10.fl kc_4 rfl (v := .ref (x + 1)) (fun H h => ⟨_, h.1, rfl⟩) ?_
        refine mw_get X kf_X4_33 kc_3 rfl (v := .ref (x + 1 + 1)) (fun H h => ⟨_, h.2.1.1, rfl⟩) ?_
        refine mw_cV0r X kd_X2_size kv_X2_size kl_X4_36 (ci := 2) rfl rfl (Nat.le_of_ble_eq_true rfl) ⟨Nat.le_of_ble_eq_true rfl, Nat.le_of_ble_eq_true rfl⟩ ⟨Nat.le_of_ble_eq_true rfl, Nat.le_of_ble_eq_true rfl⟩ (fun q z => mx_sub ((ws_sub 1 (by omega)) q z)) (fun H h => ⟨(have h := h.2.1; h.o_road), h.lift0 (ws_sub 1 (by omega)) (have h := h.2.1; y1_size hb h)⟩) ?_
        have hop : op_drift W ρ.2.1 (nI n) = ((mo_dr t (W, ρ.2.1)).1 11, (mo_dr t (W, ρ.2.1)).1, (mo_dr t (W, ρ.2.1)).2) := by unfold op_drift; rw [if_pos hin, ml_n (by omega), htn]
        exact mw_iret X rfl rfl (fun H h => ⟨by rw [hop]; exact congrArg (fun z => some (Value.int z)) (ml_i11 (hd t (by omega)).1.1).symm, by rw [hop]; exact h⟩)
      · have htn : t < n := by rw [nI_leI (by omega) (by omega)] at c18; omega
        refine mw_steps X 1 (pc' := 22) (lv' := [(2, .int (nI t)), (0, .ref x), (1, .int (nI n))]) (st' := [.ref x]) rfl ?_
        refine mw_cV0v X kd_X4_drawOne kv_X4_drawOne kl_X4_185 (ci := 4) rfl rfl (Nat.le_of_ble_eq_true rfl) ⟨Nat.le_of_ble_eq_true rfl, Nat.le_of_ble_eq_true rfl⟩ ⟨Nat.le_of_ble_eq_true rfl, Nat.le_of_ble_eq_true rfl⟩ (fun _ h => h) (fun H h => ⟨⟨_, h.1⟩, zx_chance hx h (c := 15) (hd t (by omega)).1 (hd t (by omega)).2⟩) ?_
        refine mw_pre (I' := mx_I Γ x (mo_dr (t + 1) (W, ρ.2.1)).1 (ρ.1, (mo_dr (t + 1) (W, ρ.2.1)).2, ρ.2.2.1, ρ.2.2.2.1, ρ.2.2.2.2.1, ρ.2.2.2.2.2.1, ρ.2.2.2.2.2.2)) (fun H h => by rw [ml_driftS]; exact h) ?_
        refine mw_steps X 2 (pc' := 16) (lv' := [(2, .int ((nI t) + (nI 1))), (0, .ref x), (1, .int (nI n))]) (st' := []) rfl ?_
        refine mw_lveq (lv' := [(2, .int (nI (t + 1))), (0, .ref x), (1, .int (nI n))]) (by simp only [nI_add]) ?_
        exact ih (t + 1) (by omega) (by omega)
    · refine mw_ldc X kk_X4_94 rfl ?_
      have hop : op_drift W ρ.2.1 y = (oO, W, ρ.2.1) := by unfold op_drift; rw [if_neg (by rw [ml_in_bl]; first | (rw [decide_eq_false (Int32.not_le.mpr c2)]; simp) | (rw [decide_eq_false c8]; simp))]
      exact mw_iret X rfl rfl (fun H h => ⟨by rw [hop], by rw [hop]; exact h⟩)
