set_option maxHeartbeats 4000000 in
theorem zx_isEnd {l : Launch} {Γ : mw_C} {x : Nat} (hx : Γ.2.2.2 ≤ x) {H : Heap} {y : Int32} {J : Heap → Prop} (hJ : J H) : mw_Cr l Γ mX4_isEnd 1 0 0 (mx_A x) [.int y] H (some (.int (mo_b (mo_bl y 2)))) J := by
  refine mw_ofG (P := pX4_isEnd) (by decide) (mx_As hx) oX4_isEnd (Nat.le_of_ble_eq_true rfl) ?_
  intro pg e0 sg mg below meth cd X hs
  refine mw_pre (I' := J) (fun H1 h1 => by rw [h1]; exact hJ) ?_
  refine mw_steps X 1 (pc' := 1) (lv' := [(0, .int y)]) (st' := [.int y]) rfl ?_
  refine mw_if_lt X 13 rfl rfl (fun c1 => ?_) (fun c1 => ?_)
  · refine mw_steps X 1 (pc' := 14) (lv' := [(0, .int y)]) (st' := [.int (nI 0)]) rfl ?_
    exact mw_zret X rfl (by decide) rfl (fun H h => ⟨by rw [show mo_bl y 2 = false from (by unfold mo_bl; first | (rw [decide_eq_false (Int32.not_le.mpr c1)]; rfl) | (rw [decide_eq_false (Int32.not_lt.mpr c6)]; exact Bool.and_false _))]; rfl, h⟩)
  · refine mw_steps X 2 (pc' := 6) (lv' := [(0, .int y)]) (st' := [.int (nI 2), .int y]) rfl ?_
    refine mw_icmp_ge X 13 rfl rfl (fun c6 => ?_) (fun c6 => ?_)
    · refine mw_steps X 1 (pc' := 14) (lv' := [(0, .int y)]) (st' := [.int (nI 0)]) rfl ?_
      exact mw_zret X rfl (by decide) rfl (fun H h => ⟨by rw [show mo_bl y 2 = false from (by unfold mo_bl; first | (rw [decide_eq_false (Int32.not_le.mpr c1)]; rfl) | (rw [decide_eq_false (Int32.not_lt.mpr c6)]; exact Bool.and_false _))]; rfl, h⟩)
    · refine mw_steps X 2 (pc' := 14) (lv' := [(0, .int y)]) (st' := [.int (nI 1)]) rfl ?_
      exact mw_zret X rfl (by decide) rfl (fun H h => ⟨by rw [show mo_bl y 2 = true from (by unfold mo_bl; rw [decide_eq_true (Int32.not_lt.mp c1), decide_eq_true (Int32.not_le.mp c6)]; rfl)]; rfl, h⟩)
set_option maxHeartbeats 4000000 in
theorem zx_isPlace {l : Launch} {Γ : mw_C} {x : Nat} (hx : Γ.2.2.2 ≤ x) {H : Heap} {y : Int32} {J : Heap → Prop} (hJ : J H) : mw_Cr l Γ mX4_isPlace 1 0 0 (mx_A x) [.int y] H (some (.int (mo_b (mo_bl y 5)))) J := by
  refine mw_ofG (P := pX4_isPlace) (by decide) (mx_As hx) oX4_isPlace (Nat.le_of_ble_eq_true rfl) ?_
  intro pg e0 sg mg below meth cd X hs
  refine mw_pre (I' := J) (fun H1 h1 => by rw [h1]; exact hJ) ?_
  refine mw_steps X 1 (pc' := 1) (lv' := [(0, .int y)]) (st' := [.int y]) rfl ?_
  refine mw_if_lt X 13 rfl rfl (fun c1 => ?_) (fun c1 => ?_)
  · refine mw_steps X 1 (pc' := 14) (lv' := [(0, .int y)]) (st' := [.int (nI 0)]) rfl ?_
    exact mw_zret X rfl (by decide) rfl (fun H h => ⟨by rw [show mo_bl y 5 = false from (by unfold mo_bl; first | (rw [decide_eq_false (Int32.not_le.mpr c1)]; rfl) | (rw [decide_eq_false (Int32.not_lt.mpr c6)]; exact Bool.and_false _))]; rfl, h⟩)
  · refine mw_steps X 2 (pc' := 6) (lv' := [(0, .int y)]) (st' := [.int (nI 5), .int y]) rfl ?_
    refine mw_icmp_ge X 13 rfl rfl (fun c6 => ?_) (fun c6 => ?_)
    · refine mw_steps X 1 (pc' := 14) (lv' := [(0, .int y)]) (st' := [.int (nI 0)]) rfl ?_
      exact mw_zret X rfl (by decide) rfl (fun H h => ⟨by rw [show mo_bl y 5 = false from (by unfold mo_bl; first | (rw [decide_eq_false (Int32.not_le.mpr c1)]; rfl) | (rw [decide_eq_false (Int32.not_lt.mpr c6)]; exact Bool.and_false _))]; rfl, h⟩)
    · refine mw_steps X 2 (pc' := 14) (lv' := [(0, .int y)]) (st' := [.int (nI 1)]) rfl ?_
      exact mw_zret X rfl (by decide) rfl (fun H h => ⟨by rw [show mo_bl y 5 = true from (by unfold mo_bl; rw [decide_eq_true (Int32.not_lt.mp c1), decide_eq_true (Int32.not_le.mp c6)]; rfl)]; rfl, h⟩)
set_option maxHeartbeats 4000000 in
theorem zx_other0 {l : Launch} {Γ : mw_C} {x : Nat} (hx : Γ.2.2.2 ≤ x) {H : Heap} {J : Heap → Prop} (hJ : J H) : mw_Cr l Γ mX4_otherOf 1 0 0 (mx_A x) [.int (nI 0)] H (some (.int (nI 1))) J := by
  refine mw_ofG (P := pX4_otherOf) (by decide) (mx_As hx) oX4_otherOf (Nat.le_of_ble_eq_true rfl) ?_
  intro pg e0 sg mg below meth cd X hs
  refine mw_pre (I' := J) (fun H1 h1 => by rw [h1]; exact hJ) ?_
  refine mw_steps X 1 (pc' := 1) (lv' := [(0, .int (nI 0))]) (st' := [.int (nI 0)]) rfl ?_
  refine mw_if_ne X 8 rfl rfl (fun c1 => absurd (by decide) c1) (fun c1 => ?_)
  refine mw_steps X 2 (pc' := 9) (lv' := [(0, .int (nI 0))]) (st' := [.int (nI 1)]) rfl ?_
  exact mw_iret X rfl rfl (fun H h => ⟨rfl, h⟩)
set_option maxHeartbeats 4000000 in
theorem zx_other1 {l : Launch} {Γ : mw_C} {x : Nat} (hx : Γ.2.2.2 ≤ x) {H : Heap} {J : Heap → Prop} (hJ : J H) : mw_Cr l Γ mX4_otherOf 1 0 0 (mx_A x) [.int (nI 1)] H (some (.int (nI 0))) J := by
  refine mw_ofG (P := pX4_otherOf) (by decide) (mx_As hx) oX4_otherOf (Nat.le_of_ble_eq_true rfl) ?_
  intro pg e0 sg mg below meth cd X hs
  refine mw_pre (I' := J) (fun H1 h1 => by rw [h1]; exact hJ) ?_
  refine mw_steps X 1 (pc' := 1) (lv' := [(0, .int (nI 1))]) (st' := [.int (nI 1)]) rfl ?_
  refine mw_if_ne X 8 rfl rfl (fun c1 => ?_) (fun c1 => absurd c1 (by decide))
  refine mw_steps X 1 (pc' := 9) (lv' := [(0, .int (nI 1))]) (st' := [.int (nI 0)]) rfl ?_
  exact mw_iret X rfl rfl (fun H h => ⟨rfl, h⟩)
set_option maxHeartbeats 4000000 in
set_option maxRecDepth 20000 in
theorem zx_cellR {l : Launch} {Γ : mw_C} {x : Nat} (hx : Γ.2.2.2 ≤ x) {W : Nat → Int32} {ρ : md_R} {H : Heap} {y z : Int32} (hH : mx_I Γ x W ρ H)  : mw_Cr l Γ mX4_cell 2 0 0 (mx_A x) [.ref (x + 1 + 1), .int y, .int z] H (some (.int (op_letter W y z))) (mx_I Γ x W ρ) := by
  have hb : Γ.2.2.2 ≤ x + 1 := by omega
  have hn24 : mo_n (W 11) ≤ 100 := by have := hH.2.1.2.1.1; omega
  refine mw_ofG (P := pX4_cell) (by decide) (mx_As hx) oX4_cell (Nat.le_of_ble_eq_true rfl) ?_
  intro pg e0 sg mg below meth cd X hs
  refine mw_pre (I' := mx_I Γ x W ρ) (fun H1 h1 => by rw [h1]; exact hH) ?_
  refine mw_steps X 2 (pc' := 2) (lv' := [(0, .ref (x + 1 + 1)), (1, .int y), (2, .int z)]) (st' := [.int y, .ref (x + 1 + 1)]) rfl ?_
  refine mw_cV1r X kd_X2_hasRow kv_X2_hasRow kl_X4_162 (ci := 2) rfl rfl (Nat.le_of_ble_eq_true rfl) ⟨Nat.le_of_ble_eq_true rfl, Nat.le_of_ble_eq_true rfl⟩ ⟨Nat.le_of_ble_eq_true rfl, Nat.le_of_ble_eq_true rfl⟩ (fun q z => mx_sub ((ws_sub 1 (by omega)) q z)) (fun H h => ⟨(have h := h.2.1; h.o_road), h.lift0 (ws_sub 1 (by omega)) (have h := h.2.1; y1_hasRow hb h)⟩) ?_
  refine mw_if_ne X 11 rfl rfl (fun c5 => ?_) (fun c5 => ?_)
  · obtain ⟨k, hk, rfl⟩ := mo_bl_t (mo_b_nz c5) (by omega)
    refine mw_steps X 2 (pc' := 13) (lv' := [(0, .ref (x + 1 + 1)), (1, .int (nI k)), (2, .int z)]) (st' := [.int z, .ref (x + 1 + 1)]) rfl ?_
    refine mw_cV1r X kd_X2_hasColumn kv_X2_hasColumn kl_X4_195 (ci := 2) rfl rfl (Nat.le_of_ble_eq_true rfl) ⟨Nat.le_of_ble_eq_true rfl, Nat.le_of_ble_eq_true rfl⟩ ⟨Nat.le_of_ble_eq_true rfl, Nat.le_of_ble_eq_true rfl⟩ (fun q z => mx_sub ((ws_sub 1 (by omega)) q z)) (fun H h => ⟨(have h := h.2.1; h.o_road), h.lift0 (ws_sub 1 (by omega)) (have h := h.2.1; y1_hasCol hb h)⟩) ?_
    refine mw_if_ne X 22 rfl rfl (fun c16 => ?_) (fun c16 => ?_)
    · obtain ⟨j, hj, rfl⟩ := mo_bl_t (mo_b_nz c16) (by omega)
      refine mw_steps X 3 (pc' := 25) (lv' := [(0, .ref (x + 1 + 1)), (1, .int (nI k)), (2, .int (nI j))]) (st' := [.int (nI j), .int (nI k), .ref (x + 1 + 1)]) rfl ?_
      refine mw_cV2r X kd_X2_at kv_X2_at kl_X4_198 (ci := 2) rfl rfl (Nat.le_of_ble_eq_true rfl) ⟨Nat.le_of_ble_eq_true rfl, Nat.le_of_ble_eq_true rfl⟩ ⟨Nat.le_of_ble_eq_true rfl, Nat.le_of_ble_eq_true rfl⟩ (fun q z => mx_sub ((ws_sub 1 (by omega)) q z)) (fun H h => ⟨(have h := h.2.1; h.o_road), h.lift0 (ws_sub 1 (by omega)) (have h := h.2.1; y1_at hb h hk hj)⟩) ?_
      exact mw_iret X rfl rfl (fun H h => ⟨congrArg (fun z => some (Value.int z)) (Eq.symm (by unfold op_letter; rw [if_pos (mo_bl_n hk (by omega)), if_pos (mo_bl_n hj (by omega)), ml_n (by omega), ml_n (by omega)])), h⟩)
    · refine mw_ldc X kk_X4_94 rfl ?_
      exact mw_iret X rfl rfl (fun H h => ⟨congrArg (fun z => some (Value.int z)) (Eq.symm (by unfold op_letter; rw [if_pos (mo_bl_n hk (by omega)), if_neg (by rw [mo_b_z c16]; decide)])), h⟩)
  · refine mw_ldc X kk_X4_99 rfl ?_
    exact mw_iret X rfl rfl (fun H h => ⟨congrArg (fun z => some (Value.int z)) (Eq.symm (by unfold op_letter; rw [if_neg (by rw [mo_b_z c5]; decide)])), h⟩)
set_option maxHeartbeats 4000000 in
set_option maxRecDepth 20000 in
theorem zx_cellA {l : Launch} {Γ : mw_C} {x : Nat} (hx : Γ.2.2.2 ≤ x) {W : Nat → Int32} {ρ : md_R} {H : Heap} {y z : Int32} (hH : mx_I Γ x W ρ H)  : mw_Cr l Γ mX4_cell 2 0 0 (mx_A x) [.ref (x + 1 + 5), .int y, .int z] H (some (.int (op_asked W y z))) (mx_I Γ x W ρ) := by
  have hb : Γ.2.2.2 ≤ x + 1 := by omega
  have hn24 : mo_n (W 13) ≤ 100 := by have := hH.2.1.2.2.2.1.1; omega
  refine mw_ofG (P := pX4_cell) (by decide) (mx_As hx) oX4_cell (Nat.le_of_ble_eq_true rfl) ?_
  intro pg e0 sg mg below meth cd X hs
  refine mw_pre (I' := mx_I Γ x W ρ) (fun H1 h1 => by rw [h1]; exact hH) ?_
  refine mw_steps X 2 (pc' := 2) (lv' := [(0, .ref (x + 1 + 5)), (1, .int y), (2, .int z)]) (st' := [.int y, .ref (x + 1 + 5)]) rfl ?_
  refine mw_cV1r X kd_X2_hasRow kv_X2_hasRow kl_X4_162 (ci := 2) rfl rfl (Nat.le_of_ble_eq_true rfl) ⟨Nat.le_of_ble_eq_true rfl, Nat.le_of_ble_eq_true rfl⟩ ⟨Nat.le_of_ble_eq_true rfl, Nat.le_of_ble_eq_true rfl⟩ (fun q z => mx_sub ((ws_sub 5 (by omega)) q z)) (fun H h => ⟨(have h := h.2.1; h.o_asked), h.lift0 (ws_sub 5 (by omega)) (have h := h.2.1; y3_hasRow hb h)⟩) ?_
  refine mw_if_ne X 11 rfl rfl (fun c5 => ?_) (fun c5 => ?_)
  · obtain ⟨k, hk, rfl⟩ := mo_bl_t (mo_b_nz c5) (by omega)
    refine mw_steps X 2 (pc' := 13) (lv' := [(0, .ref (x + 1 + 5)), (1, .int (nI k)), (2, .int z)]) (st' := [.int z, .ref (x + 1 + 5)]) rfl ?_
    refine mw_cV1r X kd_X2_hasColumn kv_X2_hasColumn kl_X4_195 (ci := 2) rfl rfl (Nat.le_of_ble_eq_true rfl) ⟨Nat.le_of_ble_eq_true rfl, Nat.le_of_ble_eq_true rfl⟩ ⟨Nat.le_of_ble_eq_true rfl, Nat.le_of_ble_eq_true rfl⟩ (fun q z => mx_sub ((ws_sub 5 (by omega)) q z)) (fun H h => ⟨(have h := h.2.1; h.o_asked), h.lift0 (ws_sub 5 (by omega)) (have h := h.2.1; y3_hasCol hb h)⟩) ?_
    refine mw_if_ne X 22 rfl rfl (fun c16 => ?_) (fun c16 => ?_)
    · obtain ⟨j, hj, rfl⟩ := mo_bl_t (mo_b_nz c16) (by omega)
      refine mw_steps X 3 (pc' := 25) (lv' := [(0, .ref (x + 1 + 5)), (1, .int (nI k)), (2, .int (nI j))]) (st' := [.int (nI j), .int (nI k), .ref (x + 1 + 5)]) rfl ?_
      refine mw_cV2r X kd_X2_at kv_X2_at kl_X4_198 (ci := 2) rfl rfl (Nat.le_of_ble_eq_true rfl) ⟨Nat.le_of_ble_eq_true rfl, Nat.le_of_ble_eq_true rfl⟩ ⟨Nat.le_of_ble_eq_true rfl, Nat.le_of_ble_eq_true rfl⟩ (fun q z => mx_sub ((ws_sub 5 (by omega)) q z)) (fun H h => ⟨(have h := h.2.1; h.o_asked), h.lift0 (ws_sub 5 (by omega)) (have h := h.2.1; y3_at hb h hk hj)⟩) ?_
      exact mw_iret X rfl rfl (fun H h => ⟨congrArg (fun z => some (Value.int z)) (Eq.symm (by unfold op_asked; rw [if_pos (mo_bl_n hk (by omega)), if_pos (mo_bl_n hj (by omega)), ml_n (by omega), ml_n (by omega)])), h⟩)
    · refine mw_ldc X kk_X4_94 rfl ?_
      exact mw_iret X rfl rfl (fun H h => ⟨congrArg (fun z => some (Value.int z)) (Eq.symm (by unfold op_asked; rw [if_pos (mo_bl_n hk (by omega)), if_neg (by rw [mo_b_z c16]; decide)])), h⟩)
  · refine mw_ldc X kk_X4_99 rfl ?_
    exact mw_iret X rfl rfl (fun H h => ⟨congrArg (fun z => some (Value.int z)) (Eq.symm (by unfold op_asked; rw [if_neg (by rw [mo_b_z c5]; decide)])), h⟩)
set_option maxHeartbeats 4000000 in
set_option maxRecDepth 20000 in
theorem zx_cellH {l : Launch} {Γ : mw_C} {x : Nat} (hx : Γ.2.2.2 ≤ x) {W : Nat → Int32} {ρ : md_R} {H : Heap} {y z : Int32} (hH : mx_I Γ x W ρ H)  : mw_Cr l Γ mX4_cell 2 0 0 (mx_A x) [.ref (x + 1 + 3), .int y, .int z] H (some (.int (op_held W y z))) (mx_I Γ x W ρ) := by
  have hb : Γ.2.2.2 ≤ x + 1 := by omega
  have hn24 : mo_n (W 12) ≤ 100 := by have := hH.2.1.2.2.1.1; omega
  refine mw_ofG (P := pX4_cell) (by decide) (mx_As hx) oX4_cell (Nat.le_of_ble_eq_true rfl) ?_
  intro pg e0 sg mg below meth cd X hs
  refine mw_pre (I' := mx_I Γ x W ρ) (fun H1 h1 => by rw [h1]; exact hH) ?_
  refine mw_steps X 2 (pc' := 2) (lv' := [(0, .ref (x + 1 + 3)), (1, .int y), (2, .int z)]) (st' := [.int y, .ref (x + 1 + 3)]) rfl ?_
  refine mw_cV1r X kd_X2_hasRow kv_X2_hasRow kl_X4_162 (ci := 2) rfl rfl (Nat.le_of_ble_eq_true rfl) ⟨Nat.le_of_ble_eq_true rfl, Nat.le_of_ble_eq_true rfl⟩ ⟨Nat.le_of_ble_eq_true rfl, Nat.le_of_ble_eq_true rfl⟩ (fun q z => mx_sub ((ws_sub 3 (by omega)) q z)) (fun H h => ⟨(have h := h.2.1; h.o_waiting), h.lift0 (ws_sub 3 (by omega)) (have h := h.2.1; y2_hasRow hb h)⟩) ?_
  refine mw_if_ne X 11 rfl rfl (fun c5 => ?_) (fun c5 => ?_)
  · obtain ⟨k, hk, rfl⟩ := mo_bl_t (mo_b_nz c5) (by omega)
    refine mw_steps X 2 (pc' := 13) (lv' := [(0, .ref (x + 1 + 3)), (1, .int (nI k)), (2, .int z)]) (st' := [.int z, .ref (x + 1 + 3)]) rfl ?_
    refine mw_cV1r X kd_X2_hasColumn kv_X2_hasColumn kl_X4_195 (ci := 2) rfl rfl (Nat.le_of_ble_eq_true rfl) ⟨Nat.le_of_ble_eq_true rfl, Nat.le_of_ble_eq_true rfl⟩ ⟨Nat.le_of_ble_eq_true rfl, Nat.le_of_ble_eq_true rfl⟩ (fun q z => mx_sub ((ws_sub 3 (by omega)) q z)) (fun H h => ⟨(have h := h.2.1; h.o_waiting), h.lift0 (ws_sub 3 (by omega)) (have h := h.2.1; y2_hasCol hb h)⟩) ?_
    refine mw_if_ne X 22 rfl rfl (fun c16 => ?_) (fun c16 => ?_)
    · obtain ⟨j, hj, rfl⟩ := mo_bl_t (mo_b_nz c16) (by omega)
      refine mw_steps X 3 (pc' := 25) (lv' := [(0, .ref (x + 1 + 3)), (1, .int (nI k)), (2, .int (nI j))]) (st' := [.int (nI j), .int (nI k), .ref (x + 1 + 3)]) rfl ?_
      refine mw_cV2r X kd_X2_at kv_X2_at kl_X4_198 (ci := 2) rfl rfl (Nat.le_of_ble_eq_true rfl) ⟨Nat.le_of_ble_eq_true rfl, Nat.le_of_ble_eq_true rfl⟩ ⟨Nat.le_of_ble_eq_true rfl, Nat.le_of_ble_eq_true rfl⟩ (fun q z => mx_sub ((ws_sub 3 (by omega)) q z)) (fun H h => ⟨(have h := h.2.1; h.o_waiting), h.lift0 (ws_sub 3 (by omega)) (have h := h.2.1; y2_at hb h hk hj)⟩) ?_
      exact mw_iret X rfl rfl (fun H h => ⟨congrArg (fun z => some (Value.int z)) (Eq.symm (by unfold op_held; rw [if_pos (mo_bl_n hk (by omega)), if_pos (mo_bl_n hj (by omega)), ml_n (by omega), ml_n (by omega)])), h⟩)
    · refine mw_ldc X kk_X4_94 rfl ?_
      exact mw_iret X rfl rfl (fun H h => ⟨congrArg (fun z => some (Value.int z)) (Eq.symm (by unfold op_held; rw [if_pos (mo_bl_n hk (by omega)), if_neg (by rw [mo_b_z c16]; decide)])), h⟩)
  · refine mw_ldc X kk_X4_99 rfl ?_
    exact mw_iret X rfl rfl (fun H h => ⟨congrArg (fun z => some (Value.int z)) (Eq.symm (by unfold op_held; rw [if_neg (by rw [mo_b_z c5]; decide)])), h⟩)
set_option maxHeartbeats 4000000 in
set_option maxRecDepth 20000 in
theorem zx_cellP {l : Launch} {Γ : mw_C} {x : Nat} (hx : Γ.2.2.2 ≤ x) {W : Nat → Int32} {ρ : md_R} {H : Heap} {y z : Int32} (hH : mx_I Γ x W ρ H)  : mw_Cr l Γ mX4_cell 2 0 0 (mx_A x) [.ref (x + 1 + 7), .int y, .int z] H (some (.int ((if mo_bl y 5 = true then (if mo_bl z 5 = true then W (22 + 5 * mo_n z + mo_n y) else oO) else oU)))) (mx_I Γ x W ρ) := by
  have hb : Γ.2.2.2 ≤ x + 1 := by omega
  have hn24 : 5 ≤ 100 := by omega
  refine mw_ofG (P := pX4_cell) (by decide) (mx_As hx) oX4_cell (Nat.le_of_ble_eq_true rfl) ?_
  intro pg e0 sg mg below meth cd X hs
  refine mw_pre (I' := mx_I Γ x W ρ) (fun H1 h1 => by rw [h1]; exact hH) ?_
  refine mw_steps X 2 (pc' := 2) (lv' := [(0, .ref (x + 1 + 7)), (1, .int y), (2, .int z)]) (st' := [.int y, .ref (x + 1 + 7)]) rfl ?_
  refine mw_cV1r X kd_X2_hasRow kv_X2_hasRow kl_X4_162 (ci := 2) rfl rfl (Nat.le_of_ble_eq_true rfl) ⟨Nat.le_of_ble_eq_true rfl, Nat.le_of_ble_eq_true rfl⟩ ⟨Nat.le_of_ble_eq_true rfl, Nat.le_of_ble_eq_true rfl⟩ (fun q z => mx_sub ((ws_sub 7 (by omega)) q z)) (fun H h => ⟨(have h := h.2.1; h.o_places), h.lift0 (ws_sub 7 (by omega)) (have h := h.2.1; y4_hasRow hb h)⟩) ?_
  refine mw_if_ne X 11 rfl rfl (fun c5 => ?_) (fun c5 => ?_)
  · obtain ⟨k, hk, rfl⟩ := mo_bl_t (mo_b_nz c5) (by omega)
    refine mw_steps X 2 (pc' := 13) (lv' := [(0, .ref (x + 1 + 7)), (1, .int (nI k)), (2, .int z)]) (st' := [.int z, .ref (x + 1 + 7)]) rfl ?_
    refine mw_cV1r X kd_X2_hasColumn kv_X2_hasColumn kl_X4_195 (ci := 2) rfl rfl (Nat.le_of_ble_eq_true rfl) ⟨Nat.le_of_ble_eq_true rfl, Nat.le_of_ble_eq_true rfl⟩ ⟨Nat.le_of_ble_eq_true rfl, Nat.le_of_ble_eq_true rfl⟩ (fun q z => mx_sub ((ws_sub 7 (by omega)) q z)) (fun H h => ⟨(have h := h.2.1; h.o_places), h.lift0 (ws_sub 7 (by omega)) (have h := h.2.1; y4_hasCol hb h)⟩) ?_
    refine mw_if_ne X 22 rfl rfl (fun c16 => ?_) (fun c16 => ?_)
    · obtain ⟨j, hj, rfl⟩ := mo_bl_t (mo_b_nz c16) (by omega)
      refine mw_steps X 3 (pc' := 25) (lv' := [(0, .ref (x + 1 + 7)), (1, .int (nI k)), (2, .int (nI j))]) (st' := [.int (nI j), .int (nI k), .ref (x + 1 + 7)]) rfl ?_
      refine mw_cV2r X kd_X2_at kv_X2_at kl_X4_198 (ci := 2) rfl rfl (Nat.le_of_ble_eq_true rfl) ⟨Nat.le_of_ble_eq_true rfl, Nat.le_of_ble_eq_true rfl⟩ ⟨Nat.le_of_ble_eq_true rfl, Nat.le_of_ble_eq_true rfl⟩ (fun q z => mx_sub ((ws_sub 7 (by omega)) q z)) (fun H h => ⟨(have h := h.2.1; h.o_places), h.lift0 (ws_sub 7 (by omega)) (have h := h.2.1; y4_at hb h hk hj)⟩) ?_
      exact mw_iret X rfl rfl (fun H h => ⟨congrArg (fun z => some (Value.int z)) (Eq.symm (by rw [if_pos (mo_bl_n hk (by omega)), if_pos (mo_bl_n hj (by omega)), ml_n (by omega), ml_n (by omega)])), h⟩)
    · refine mw_ldc X kk_X4_94 rfl ?_
      exact mw_iret X rfl rfl (fun H h => ⟨congrArg (fun z => some (Value.int z)) (Eq.symm (by rw [if_pos (mo_bl_n hk (by omega)), if_neg (by rw [mo_b_z c16]; decide)])), h⟩)
  · refine mw_ldc X kk_X4_99 rfl ?_
    exact mw_iret X rfl rfl (fun H h => ⟨congrArg (fun z => some (Value.int z)) (Eq.symm (by rw [if_neg (by rw [mo_b_z c5]; decide)])), h⟩)
set_option maxHeartbeats 4000000 in
set_option maxRecDepth 20000 in
theorem zx_letter {l : Launch} {Γ : mw_C} {x : Nat} (hx : Γ.2.2.2 ≤ x) {W : Nat → Int32} {ρ : md_R} {H : Heap} {y z : Int32} (hH : mx_I Γ x W ρ H)  : mw_Cr l Γ mX4_letter 3 0 0 (mx_A x) [.ref x, .int y, .int z] H (some (.int (op_letter W y z))) (mx_I Γ x W ρ) := by
  have hb : Γ.2.2.2 ≤ x + 1 := by omega
  refine mw_ofG (P := pX4_letter) (by decide) (mx_As hx) oX4_letter (Nat.le_of_ble_eq_true rfl) ?_
  intro pg e0 sg mg below meth cd X hs
  refine mw_pre (I' := mx_I Γ x W ρ) (fun H1 h1 => by rw [h1]; exact hH) ?_
  refine mw_steps X 1 (pc' := 1) (lv' := [(0, .ref x), (1, .int y), (2, .int z)]) (st' := [.ref x]) rfl ?_
  refine mw_get X kf_X4_10.fl kc_4 rfl (v := .ref (x + 1)) (fun H h => ⟨_, h.1, rfl⟩) ?_
  refine mw_get X kf_X4_33 kc_3 rfl (v := .ref (x + 1 + 1)) (fun H h => ⟨_, h.2.1.1, rfl⟩) ?_
  refine mw_steps X 2 (pc' := 9) (lv' := [(0, .ref x), (1, .int y), (2, .int z)]) (st' := [.int z, .int y, .ref (x + 1 + 1)]) rfl ?_
  refine mw_cS3r X kd_X4_cell ks_X4_cell kl_X4_131 rfl (Nat.le_of_ble_eq_true rfl) ⟨Nat.le_of_ble_eq_true rfl, Nat.le_of_ble_eq_true rfl⟩ ⟨Nat.le_of_ble_eq_true rfl, Nat.le_of_ble_eq_true rfl⟩ (fun _ h => h) (fun H h => zx_cellR hx h) ?_
  exact mw_iret X rfl rfl (fun H h => ⟨rfl, h⟩)
set_option maxHeartbeats 4000000 in
set_option maxRecDepth 20000 in
theorem zx_asked {l : Launch} {Γ : mw_C} {x : Nat} (hx : Γ.2.2.2 ≤ x) {W : Nat → Int32} {ρ : md_R} {H : Heap} {y z : Int32} (hH : mx_I Γ x W ρ H)  : mw_Cr l Γ mX4_challenge 3 0 0 (mx_A x) [.ref x, .int y, .int z] H (some (.int (op_asked W y z))) (mx_I Γ x W ρ) := by
  have hb : Γ.2.2.2 ≤ x + 1 := by omega
  refine mw_ofG (P := pX4_challenge) (by decide) (mx_As hx) oX4_challenge (Nat.le_of_ble_eq_true rfl) ?_
  intro pg e0 sg mg below meth cd X hs
  refine mw_pre (I' := mx_I Γ x W ρ) (fun H1 h1 => by rw [h1]; exact hH) ?_
  refine mw_steps X 1 (pc' := 1) (lv' := [(0, .ref x), (1, .int y), (2, .int z)]) (st' := [.ref x]) rfl ?_
  refine mw_get X kf_X4_10.fl kc_4 rfl (v := .ref (x + 1)) (fun H h => ⟨_, h.1, rfl⟩) ?_
  refine mw_get X kf_X4_43 kc_3 rfl (v := .ref (x + 1 + 5)) (fun H h => ⟨_, h.2.1.1, rfl⟩) ?_
  refine mw_steps X 2 (pc' := 9) (lv' := [(0, .ref x), (1, .int y), (2, .int z)]) (st' := [.int z, .int y, .ref (x + 1 + 5)]) rfl ?_
  refine mw_cS3r X kd_X4_cell ks_X4_cell kl_X4_131 rfl (Nat.le_of_ble_eq_true rfl) ⟨Nat.le_of_ble_eq_true rfl, Nat.le_of_ble_eq_true rfl⟩ ⟨Nat.le_of_ble_eq_true rfl, Nat.le_of_ble_eq_true rfl⟩ (fun _ h => h) (fun H h => zx_cellA hx h) ?_
  exact mw_iret X rfl rfl (fun H h => ⟨rfl, h⟩)
set_option maxHeartbeats 4000000 in
set_option maxRecDepth 20000 in
theorem zx_held {l : Launch} {Γ : mw_C} {x : Nat} (hx : Γ.2.2.2 ≤ x) {W : Nat → Int32} {ρ : md_R} {H : Heap} {y z : Int32} (hH : mx_I Γ x W ρ H)  : mw_Cr l Γ mX4_held 3 0 0 (mx_A x) [.ref x, .int y, .int z] H (some (.int (op_held W y z))) (mx_I Γ x W ρ) := by
  have hb : Γ.2.2.2 ≤ x + 1 := by omega
  refine mw_ofG (P := pX4_held) (by decide) (mx_As hx) oX4_held (Nat.le_of_ble_eq_true rfl) ?_
  intro pg e0 sg mg below meth cd X hs
  refine mw_pre (I' := mx_I Γ x W ρ) (fun H1 h1 => by rw [h1]; exact hH) ?_
  refine mw_steps X 1 (pc' := 1) (lv' := [(0, .ref x), (1, .int y), (2, .int z)]) (st' := [.ref x]) rfl ?_
  refine mw_get X kf_X4_10.fl kc_4 rfl (v := .ref (x + 1)) (fun H h => ⟨_, h.1, rfl⟩) ?_
  refine mw_get X kf_X4_40 kc_3 rfl (v := .ref (x + 1 + 3)) (fun H h => ⟨_, h.2.1.1, rfl⟩) ?_
  refine mw_steps X 2 (pc' := 9) (lv' := [(0, .ref x), (1, .int y), (2, .int z)]) (st' := [.int z, .int y, .ref (x + 1 + 3)]) rfl ?_
  refine mw_cS3r X kd_X4_cell ks_X4_cell kl_X4_131 rfl (Nat.le_of_ble_eq_true rfl) ⟨Nat.le_of_ble_eq_true rfl, Nat.le_of_ble_eq_true rfl⟩ ⟨Nat.le_of_ble_eq_true rfl, Nat.le_of_ble_eq_true rfl⟩ (fun _ h => h) (fun H h => zx_cellH hx h) ?_
  exact mw_iret X rfl rfl (fun H h => ⟨rfl, h⟩)
theorem ml_an_place {W : Nat → Int32} {p j : Nat} (hj : j < 5) : an_place W p j = W (22 + 5 * j + p) := by
  rcases (show j = 0 ∨ j = 1 ∨ j = 2 ∨ j = 3 ∨ j = 4 by omega) with rfl | rfl | rfl | rfl | rfl <;> rfl
theorem ml_bl56 {y : Int32} (h : ¬ y = nI 5) : mo_bl y 6 = mo_bl y 5 := by
  cases hb : mo_bl y 6 with
  | true =>
    obtain ⟨j, hj, rfl⟩ := mo_bl_t hb (by omega)
    rw [mo_bl_n (show j < 5 by rw [nI_eq (by omega) (by omega)] at h; omega) (by omega)]
  | false =>
    cases hb2 : mo_bl y 5 with
    | false => rfl
    | true =>
      obtain ⟨j, hj, rfl⟩ := mo_bl_t hb2 (by omega)
      rw [mo_bl_n (show j < 6 by omega) (by omega)] at hb
      cases hb
set_option maxHeartbeats 4000000 in
set_option maxRecDepth 20000 in
theorem zx_place {l : Launch} {Γ : mw_C} {x : Nat} (hx : Γ.2.2.2 ≤ x) {W : Nat → Int32} {ρ : md_R} {H : Heap} {c : Nat} {y z : Int32} (hH : mx_I Γ x W ρ H) (hv : iv c W) : mw_Cr l Γ mX4_place 3 0 0 (mx_A x) [.ref x, .int y, .int z] H (some (.int (op_place W y z))) (mx_I Γ x W ρ) := by
  have hb : Γ.2.2.2 ≤ x + 1 := by omega
  refine mw_ofG (P := pX4_place) (by decide) (mx_As hx) oX4_place (Nat.le_of_ble_eq_true rfl) ?_
  intro pg e0 sg mg below meth cd X hs
  refine mw_pre (I' := mx_I Γ x W ρ) (fun H1 h1 => by rw [h1]; exact hH) ?_
  refine mw_steps X 1 (pc' := 1) (lv' := [(0, .ref x), (1, .int y), (2, .int z)]) (st' := [.int y]) rfl ?_
  refine mw_cS1r X kd_X4_isPlace ks_X4_isPlace kl_X4_122 rfl (Nat.le_of_ble_eq_true rfl) ⟨Nat.le_of_ble_eq_true rfl, Nat.le_of_ble_eq_true rfl⟩ ⟨Nat.le_of_ble_eq_true rfl, Nat.le_of_ble_eq_true rfl⟩ (fun _ h => h) (fun H h => zx_isPlace hx h) ?_
  refine mw_if_ne X 10 rfl rfl (fun c4 => ?_) (fun c4 => ?_)
  · obtain ⟨p, hp, rfl⟩ := mo_bl_t (mo_b_nz c4) (by omega)
    refine mw_steps X 2 (pc' := 12) (lv' := [(0, .ref x), (1, .int (nI p)), (2, .int z)]) (st' := [.int (nI 5), .int z]) rfl ?_
    refine mw_icmp_ne X 24 rfl rfl (fun c12 => ?_) (fun c12 => ?_)
    · refine mw_steps X 1 (pc' := 25) (lv' := [(0, .ref x), (1, .int (nI p)), (2, .int z)]) (st' := [.ref x]) rfl ?_
      refine mw_get X kf_X4_10.fl kc_4 rfl (v := .ref (x + 1)) (fun H h => ⟨_, h.1, rfl⟩) ?_
      refine mw_get X kf_X4_128 kc_3 rfl (v := .ref (x + 1 + 7)) (fun H h => ⟨_, h.2.1.1, rfl⟩) ?_
      refine mw_steps X 2 (pc' := 33) (lv' := [(0, .ref x), (1, .int (nI p)), (2, .int z)]) (st' := [.int z, .int (nI p), .ref (x + 1 + 7)]) rfl ?_
      refine mw_cS3r X kd_X4_cell ks_X4_cell kl_X4_131 rfl (Nat.le_of_ble_eq_true rfl) ⟨Nat.le_of_ble_eq_true rfl, Nat.le_of_ble_eq_true rfl⟩ ⟨Nat.le_of_ble_eq_true rfl, Nat.le_of_ble_eq_true rfl⟩ (fun _ h => h) (fun H h => zx_cellP hx h) ?_
      refine mw_iret X rfl rfl (fun H h => ⟨congrArg (fun z => some (Value.int z)) (Eq.symm ?_), h⟩)
      unfold op_place
      rw [ml_bl56 c12, if_pos (mo_bl_n hp (by omega)), if_pos (mo_bl_n hp (by omega))]
      cases hb5 : mo_bl z 5 with
      | false => rfl
      | true =>
        obtain ⟨j, hj, rfl⟩ := mo_bl_t hb5 (by omega)
        rw [if_pos rfl, if_pos rfl, ml_n (show j ≤ 100000 by omega), ml_an_place hj]
    · refine mw_steps X 1 (pc' := 16) (lv' := [(0, .ref x), (1, .int (nI p)), (2, .int z)]) (st' := [.ref x]) rfl ?_
      refine mw_get X kf_X4_10.fl kc_4 rfl (v := .ref (x + 1)) (fun H h => ⟨_, h.1, rfl⟩) ?_
      refine mw_steps X 1 (pc' := 20) (lv' := [(0, .ref x), (1, .int (nI p)), (2, .int z)]) (st' := [.int (nI p), .ref (x + 1)]) rfl ?_
      refine mw_cV1r X kd_X3_waitingFor kv_X3_waitingFor kl_X4_125 (ci := 3) rfl rfl (Nat.le_of_ble_eq_true rfl) ⟨Nat.le_of_ble_eq_true rfl, Nat.le_of_ble_eq_true rfl⟩ ⟨Nat.le_of_ble_eq_true rfl, Nat.le_of_ble_eq_true rfl⟩ (fun q z => mx_sub ((fun _ z => z) q z)) (fun H h => ⟨⟨_, h.2.1.1⟩, h.lift0 (fun _ z => z) (have h := h.2.1; zw_held hb h hv.1 (p := p))⟩) ?_
      exact mw_iret X rfl rfl (fun H h => ⟨congrArg (fun z => some (Value.int z)) (Eq.symm (by unfold op_place; rw [c12, if_pos (mo_bl_n hp (by omega)), if_pos (show mo_bl (nI 5) 6 = true by decide), ml_n (show p ≤ 100000 by omega), ml_n (show 5 ≤ 100000 by omega)]; rfl)), h⟩)
  · refine mw_ldc X kk_X4_99 rfl ?_
    exact mw_iret X rfl rfl (fun H h => ⟨congrArg (fun z => some (Value.int z)) (Eq.symm (by unfold op_place; rw [if_neg (by rw [mo_b_z c4]; decide)])), h⟩)
set_option maxHeartbeats 4000000 in
set_option maxRecDepth 20000 in
theorem zx_endN {l : Launch} {Γ : mw_C} {x : Nat} (hx : Γ.2.2.2 ≤ x) {W : Nat → Int32} {ρ : md_R} {H : Heap} {y z : Int32} (hH : mx_I Γ x W ρ H) (hy : mo_bl y 2 = false) : mw_Cr l Γ mX4_end 3 0 0 (mx_A x) [.ref x, .int y, .int z] H (some (.int oU)) (mx_I Γ x W ρ) := by
  have hb : Γ.2.2.2 ≤ x + 1 := by omega
  refine mw_ofG (P := pX4_end) (by decide) (mx_As hx) oX4_end (Nat.le_of_ble_eq_true rfl) ?_
  intro pg e0 sg mg below meth cd X hs
  refine mw_pre (I' := mx_I Γ x W ρ) (fun H1 h1 => by rw [h1]; exact hH) ?_
  refine mw_steps X 1 (pc' := 1) (lv' := [(0, .ref x), (1, .int y), (2, .int z)]) (st' := [.int y]) rfl ?_
  refine mw_cS1r X kd_X4_isEnd ks_X4_isEnd kl_X4_95 rfl (Nat.le_of_ble_eq_true rfl) ⟨Nat.le_of_ble_eq_true rfl, Nat.le_of_ble_eq_true rfl⟩ ⟨Nat.le_of_ble_eq_true rfl, Nat.le_of_ble_eq_true rfl⟩ (fun _ h => h) (fun H h => zx_isEnd hx h) ?_
  refine mw_if_ne X 10 rfl rfl (fun c4 => absurd (by rw [hy]; rfl) c4) (fun c4 => ?_)
  refine mw_ldc X kk_X4_99 rfl ?_
  exact mw_iret X rfl rfl (fun H h => ⟨rfl, h⟩)
set_option maxHeartbeats 4000000 in
set_option maxRecDepth 20000 in
theorem zx_end00 {l : Launch} {Γ : mw_C} {x : Nat} (hx : Γ.2.2.2 ≤ x) {W : Nat → Int32} {ρ : md_R} {H : Heap}  (hH : mx_I Γ x W ρ H)  : mw_Cr l Γ mX4_end 3 0 0 (mx_A x) [.ref x, .int (nI 0), .int (nI 0)] H (some (.int (an_end W 0 0))) (mx_I Γ x W ρ) := by
  have hb : Γ.2.2.2 ≤ x + 1 := by omega
  refine mw_ofG (P := pX4_end) (by decide) (mx_As hx) oX4_end (Nat.le_of_ble_eq_true rfl) ?_
  intro pg e0 sg mg below meth cd X hs
  refine mw_pre (I' := mx_I Γ x W ρ) (fun H1 h1 => by rw [h1]; exact hH) ?_
  refine mw_steps X 1 (pc' := 1) (lv' := [(0, .ref x), (1, .int (nI 0)), (2, .int (nI 0))]) (st' := [.int (nI 0)]) rfl ?_
  refine mw_cS1r X kd_X4_isEnd ks_X4_isEnd kl_X4_95 rfl (Nat.le_of_ble_eq_true rfl) ⟨Nat.le_of_ble_eq_true rfl, Nat.le_of_ble_eq_true rfl⟩ ⟨Nat.le_of_ble_eq_true rfl, Nat.le_of_ble_eq_true rfl⟩ (fun _ h => h) (fun H h => zx_isEnd hx h) ?_
  refine mw_if_ne X 10 rfl rfl (fun c4 => ?_) (fun c4 => absurd c4 (by decide))
  refine mw_steps X 1 (pc' := 11) (lv' := [(0, .ref x), (1, .int (nI 0)), (2, .int (nI 0))]) (st' := [.ref x]) rfl ?_
  refine mw_get X kf_X4_10.fl kc_4 rfl (v := .ref (x + 1)) (fun H h => ⟨_, h.1, rfl⟩) ?_
  refine mw_steps X 1 (pc' := 15) (lv' := [(0, .ref x), (1, .int (nI 0)), (2, .int (nI 0))]) (st' := [.int (nI 0), .ref (x + 1)]) rfl ?_
  refine mw_cV1r X kd_X3_endOf kv_X3_endOf kl_X4_100 (ci := 3) rfl rfl (Nat.le_of_ble_eq_true rfl) ⟨Nat.le_of_ble_eq_true rfl, Nat.le_of_ble_eq_true rfl⟩ ⟨Nat.le_of_ble_eq_true rfl, Nat.le_of_ble_eq_true rfl⟩ (fun q z => mx_sub ((fun _ z => z) q z)) (fun H h => ⟨⟨_, h.2.1.1⟩, h.lift0 (fun _ z => z) (have h := h.2.1; zw_endOf0 hb h)⟩) ?_
  refine mw_steps X 2 (pc' := 20) (lv' := [(3, .ref (x + 1 + 15)), (0, .ref x), (1, .int (nI 0)), (2, .int (nI 0))]) (st' := [.int (nI 0)]) rfl ?_
  refine mw_tsIn X 0 rfl (by decide) 60 rfl (by decide) rfl rfl ?_
  refine mw_steps X 1 (pc' := 61) (lv' := [(3, .ref (x + 1 + 15)), (0, .ref x), (1, .int (nI 0)), (2, .int (nI 0))]) (st' := [.ref (x + 1 + 15)]) rfl ?_
  refine mw_get X kf_X4_104 kc_0 rfl (v := .int (W (18))) (fun H h => ⟨_, h.2.1.2.2.2.2.2.2.2.2.1, congrArg (fun z => some (Value.int z)) rfl⟩) ?_
  exact mw_iret X rfl rfl (fun H h => ⟨rfl, h⟩)
set_option maxHeartbeats 4000000 in
set_option maxRecDepth 20000 in
theorem zx_end01 {l : Launch} {Γ : mw_C} {x : Nat} (hx : Γ.2.2.2 ≤ x) {W : Nat → Int32} {ρ : md_R} {H : Heap}  (hH : mx_I Γ x W ρ H)  : mw_Cr l Γ mX4_end 3 0 0 (mx_A x) [.ref x, .int (nI 0), .int (nI 1)] H (some (.int (an_end W 0 1))) (mx_I Γ x W ρ) := by
  have hb : Γ.2.2.2 ≤ x + 1 := by omega
  refine mw_ofG (P := pX4_end) (by decide) (mx_As hx) oX4_end (Nat.le_of_ble_eq_true rfl) ?_
  intro pg e0 sg mg below meth cd X hs
  refine mw_pre (I' := mx_I Γ x W ρ) (fun H1 h1 => by rw [h1]; exact hH) ?_
  refine mw_steps X 1 (pc' := 1) (lv' := [(0, .ref x), (1, .int (nI 0)), (2, .int (nI 1))]) (st' := [.int (nI 0)]) rfl ?_
  refine mw_cS1r X kd_X4_isEnd ks_X4_isEnd kl_X4_95 rfl (Nat.le_of_ble_eq_true rfl) ⟨Nat.le_of_ble_eq_true rfl, Nat.le_of_ble_eq_true rfl⟩ ⟨Nat.le_of_ble_eq_true rfl, Nat.le_of_ble_eq_true rfl⟩ (fun _ h => h) (fun H h => zx_isEnd hx h) ?_
  refine mw_if_ne X 10 rfl rfl (fun c4 => ?_) (fun c4 => absurd c4 (by decide))
  refine mw_steps X 1 (pc' := 11) (lv' := [(0, .ref x), (1, .int (nI 0)), (2, .int (nI 1))]) (st' := [.ref x]) rfl ?_
  refine mw_get X kf_X4_10.fl kc_4 rfl (v := .ref (x + 1)) (fun H h => ⟨_, h.1, rfl⟩) ?_
  refine mw_steps X 1 (pc' := 15) (lv' := [(0, .ref x), (1, .int (nI 0)), (2, .int (nI 1))]) (st' := [.int (nI 0), .ref (x + 1)]) rfl ?_
  refine mw_cV1r X kd_X3_endOf kv_X3_endOf kl_X4_100 (ci := 3) rfl rfl (Nat.le_of_ble_eq_true rfl) ⟨Nat.le_of_ble_eq_true rfl, Nat.le_of_ble_eq_true rfl⟩ ⟨Nat.le_of_ble_eq_true rfl, Nat.le_of_ble_eq_true rfl⟩ (fun q z => mx_sub ((fun _ z => z) q z)) (fun H h => ⟨⟨_, h.2.1.1⟩, h.lift0 (fun _ z => z) (have h := h.2.1; zw_endOf0 hb h)⟩) ?_
  refine mw_steps X 2 (pc' := 20) (lv' := [(3, .ref (x + 1 + 15)), (0, .ref x), (1, .int (nI 0)), (2, .int (nI 1))]) (st' := [.int (nI 1)]) rfl ?_
  refine mw_tsIn X 1 rfl (by decide) 65 rfl (by decide) rfl rfl ?_
  refine mw_steps X 1 (pc' := 66) (lv' := [(3, .ref (x + 1 + 15)), (0, .ref x), (1, .int (nI 0)), (2, .int (nI 1))]) (st' := [.ref (x + 1 + 15)]) rfl ?_
  refine mw_get X kf_X4_107 kc_0 rfl (v := .ref (x + 1 + 16)) (fun H h => ⟨_, h.2.1.2.2.2.2.2.2.2.2.1, rfl⟩) ?_
  refine mw_cV0r X kd_X1_size kv_X1_size kl_X4_68 (ci := 1) rfl rfl (Nat.le_of_ble_eq_true rfl) ⟨Nat.le_of_ble_eq_true rfl, Nat.le_of_ble_eq_true rfl⟩ ⟨Nat.le_of_ble_eq_true rfl, Nat.le_of_ble_eq_true rfl⟩ (fun q z => mx_sub ((ws_sub 16 (by omega)) q z)) (fun H h => ⟨(have h := h.2.1; h.o_words0), h.lift0 (ws_sub 16 (by omega)) (have h := h.2.1; y9_size hb h)⟩) ?_
  exact mw_iret X rfl rfl (fun H h => ⟨rfl, h⟩)
set_option maxHeartbeats 4000000 in
set_option maxRecDepth 20000 in
theorem zx_end02 {l : Launch} {Γ : mw_C} {x : Nat} (hx : Γ.2.2.2 ≤ x) {W : Nat → Int32} {ρ : md_R} {H : Heap}  (hH : mx_I Γ x W ρ H)  : mw_Cr l Γ mX4_end 3 0 0 (mx_A x) [.ref x, .int (nI 0), .int (nI 2)] H (some (.int (an_end W 0 2))) (mx_I Γ x W ρ) := by
  have hb : Γ.2.2.2 ≤ x + 1 := by omega
  refine mw_ofG (P := pX4_end) (by decide) (mx_As hx) oX4_end (Nat.le_of_ble_eq_true rfl) ?_
  intro pg e0 sg mg below meth cd X hs
  refine mw_pre (I' := mx_I Γ x W ρ) (fun H1 h1 => by rw [h1]; exact hH) ?_
  refine mw_steps X 1 (pc' := 1) (lv' := [(0, .ref x), (1, .int (nI 0)), (2, .int (nI 2))]) (st' := [.int (nI 0)]) rfl ?_
  refine mw_cS1r X kd_X4_isEnd ks_X4_isEnd kl_X4_95 rfl (Nat.le_of_ble_eq_true rfl) ⟨Nat.le_of_ble_eq_true rfl, Nat.le_of_ble_eq_true rfl⟩ ⟨Nat.le_of_ble_eq_true rfl, Nat.le_of_ble_eq_true rfl⟩ (fun _ h => h) (fun H h => zx_isEnd hx h) ?_
  refine mw_if_ne X 10 rfl rfl (fun c4 => ?_) (fun c4 => absurd c4 (by decide))
  refine mw_steps X 1 (pc' := 11) (lv' := [(0, .ref x), (1, .int (nI 0)), (2, .int (nI 2))]) (st' := [.ref x]) rfl ?_
  refine mw_get X kf_X4_10.fl kc_4 rfl (v := .ref (x + 1)) (fun H h => ⟨_, h.1, rfl⟩) ?_
  refine mw_steps X 1 (pc' := 15) (lv' := [(0, .ref x), (1, .int (nI 0)), (2, .int (nI 2))]) (st' := [.int (nI 0), .ref (x + 1)]) rfl ?_
  refine mw_cV1r X kd_X3_endOf kv_X3_endOf kl_X4_100 (ci := 3) rfl rfl (Nat.le_of_ble_eq_true rfl) ⟨Nat.le_of_ble_eq_true rfl, Nat.le_of_ble_eq_true rfl⟩ ⟨Nat.le_of_ble_eq_true rfl, Nat.le_of_ble_eq_true rfl⟩ (fun q z => mx_sub ((fun _ z => z) q z)) (fun H h => ⟨⟨_, h.2.1.1⟩, h.lift0 (fun _ z => z) (have h := h.2.1; zw_endOf0 hb h)⟩) ?_
  refine mw_steps X 2 (pc' := 20) (lv' := [(3, .ref (x + 1 + 15)), (0, .ref x), (1, .int (nI 0)), (2, .int (nI 2))]) (st' := [.int (nI 2)]) rfl ?_
  refine mw_tsIn X 2 rfl (by decide) 73 rfl (by decide) rfl rfl ?_
  refine mw_steps X 1 (pc' := 74) (lv' := [(3, .ref (x + 1 + 15)), (0, .ref x), (1, .int (nI 0)), (2, .int (nI 2))]) (st' := [.ref (x + 1 + 15)]) rfl ?_
  refine mw_get X kf_X4_107 kc_0 rfl (v := .ref (x + 1 + 16)) (fun H h => ⟨_, h.2.1.2.2.2.2.2.2.2.2.1, rfl⟩) ?_
  refine mw_cV0r X kd_X1_inRow kv_X1_inRow kl_X4_110 (ci := 1) rfl rfl (Nat.le_of_ble_eq_true rfl) ⟨Nat.le_of_ble_eq_true rfl, Nat.le_of_ble_eq_true rfl⟩ ⟨Nat.le_of_ble_eq_true rfl, Nat.le_of_ble_eq_true rfl⟩ (fun q z => mx_sub ((ws_sub 16 (by omega)) q z)) (fun H h => ⟨(have h := h.2.1; h.o_words0), h.lift0 (ws_sub 16 (by omega)) (have h := h.2.1; y9_inRow hb h)⟩) ?_
  exact mw_iret X rfl rfl (fun H h => ⟨rfl, h⟩)
set_option maxHeartbeats 4000000 in
set_option maxRecDepth 20000 in
theorem zx_end03 {l : Launch} {Γ : mw_C} {x : Nat} (hx : Γ.2.2.2 ≤ x) {W : Nat → Int32} {ρ : md_R} {H : Heap}  (hH : mx_I Γ x W ρ H)  : mw_Cr l Γ mX4_end 3 0 0 (mx_A x) [.ref x, .int (nI 0), .int (nI 3)] H (some (.int (an_end W 0 3))) (mx_I Γ x W ρ) := by
  have hb : Γ.2.2.2 ≤ x + 1 := by omega
  refine mw_ofG (P := pX4_end) (by decide) (mx_As hx) oX4_end (Nat.le_of_ble_eq_true rfl) ?_
  intro pg e0 sg mg below meth cd X hs
  refine mw_pre (I' := mx_I Γ x W ρ) (fun H1 h1 => by rw [h1]; exact hH) ?_
  refine mw_steps X 1 (pc' := 1) (lv' := [(0, .ref x), (1, .int (nI 0)), (2, .int (nI 3))]) (st' := [.int (nI 0)]) rfl ?_
  refine mw_cS1r X kd_X4_isEnd ks_X4_isEnd kl_X4_95 rfl (Nat.le_of_ble_eq_true rfl) ⟨Nat.le_of_ble_eq_true rfl, Nat.le_of_ble_eq_true rfl⟩ ⟨Nat.le_of_ble_eq_true rfl, Nat.le_of_ble_eq_true rfl⟩ (fun _ h => h) (fun H h => zx_isEnd hx h) ?_
  refine mw_if_ne X 10 rfl rfl (fun c4 => ?_) (fun c4 => absurd c4 (by decide))
  refine mw_steps X 1 (pc' := 11) (lv' := [(0, .ref x), (1, .int (nI 0)), (2, .int (nI 3))]) (st' := [.ref x]) rfl ?_
  refine mw_get X kf_X4_10.fl kc_4 rfl (v := .ref (x + 1)) (fun H h => ⟨_, h.1, rfl⟩) ?_
  refine mw_steps X 1 (pc' := 15) (lv' := [(0, .ref x), (1, .int (nI 0)), (2, .int (nI 3))]) (st' := [.int (nI 0), .ref (x + 1)]) rfl ?_
  refine mw_cV1r X kd_X3_endOf kv_X3_endOf kl_X4_100 (ci := 3) rfl rfl (Nat.le_of_ble_eq_true rfl) ⟨Nat.le_of_ble_eq_true rfl, Nat.le_of_ble_eq_true rfl⟩ ⟨Nat.le_of_ble_eq_true rfl, Nat.le_of_ble_eq_true rfl⟩ (fun q z => mx_sub ((fun _ z => z) q z)) (fun H h => ⟨⟨_, h.2.1.1⟩, h.lift0 (fun _ z => z) (have h := h.2.1; zw_endOf0 hb h)⟩) ?_
  refine mw_steps X 2 (pc' := 20) (lv' := [(3, .ref (x + 1 + 15)), (0, .ref x), (1, .int (nI 0)), (2, .int (nI 3))]) (st' := [.int (nI 3)]) rfl ?_
  refine mw_tsIn X 3 rfl (by decide) 81 rfl (by decide) rfl rfl ?_
  refine mw_steps X 1 (pc' := 82) (lv' := [(3, .ref (x + 1 + 15)), (0, .ref x), (1, .int (nI 0)), (2, .int (nI 3))]) (st' := [.ref (x + 1 + 15)]) rfl ?_
  refine mw_get X kf_X4_113 kc_0 rfl (v := .int (W (20))) (fun H h => ⟨_, h.2.1.2.2.2.2.2.2.2.2.1, congrArg (fun z => some (Value.int z)) rfl⟩) ?_
  exact mw_iret X rfl rfl (fun H h => ⟨rfl, h⟩)
set_option maxHeartbeats 4000000 in
set_option maxRecDepth 20000 in
theorem zx_end04 {l : Launch} {Γ : mw_C} {x : Nat} (hx : Γ.2.2.2 ≤ x) {W : Nat → Int32} {ρ : md_R} {H : Heap}  (hH : mx_I Γ x W ρ H)  : mw_Cr l Γ mX4_end 3 0 0 (mx_A x) [.ref x, .int (nI 0), .int (nI 4)] H (some (.int (an_end W 0 4))) (mx_I Γ x W ρ) := by
  have hb : Γ.2.2.2 ≤ x + 1 := by omega
  refine mw_ofG (P := pX4_end) (by decide) (mx_As hx) oX4_end (Nat.le_of_ble_eq_true rfl) ?_
  intro pg e0 sg mg below meth cd X hs
  refine mw_pre (I' := mx_I Γ x W ρ) (fun H1 h1 => by rw [h1]; exact hH) ?_
  refine mw_steps X 1 (pc' := 1) (lv' := [(0, .ref x), (1, .int (nI 0)), (2, .int (nI 4))]) (st' := [.int (nI 0)]) rfl ?_
  refine mw_cS1r X kd_X4_isEnd ks_X4_isEnd kl_X4_95 rfl (Nat.le_of_ble_eq_true rfl) ⟨Nat.le_of_ble_eq_true rfl, Nat.le_of_ble_eq_true rfl⟩ ⟨Nat.le_of_ble_eq_true rfl, Nat.le_of_ble_eq_true rfl⟩ (fun _ h => h) (fun H h => zx_isEnd hx h) ?_
  refine mw_if_ne X 10 rfl rfl (fun c4 => ?_) (fun c4 => absurd c4 (by decide))
  refine mw_steps X 1 (pc' := 11) (lv' := [(0, .ref x), (1, .int (nI 0)), (2, .int (nI 4))]) (st' := [.ref x]) rfl ?_
  refine mw_get X kf_X4_10.fl kc_4 rfl (v := .ref (x + 1)) (fun H h => ⟨_, h.1, rfl⟩) ?_
  refine mw_steps X 1 (pc' := 15) (lv' := [(0, .ref x), (1, .int (nI 0)), (2, .int (nI 4))]) (st' := [.int (nI 0), .ref (x + 1)]) rfl ?_
  refine mw_cV1r X kd_X3_endOf kv_X3_endOf kl_X4_100 (ci := 3) rfl rfl (Nat.le_of_ble_eq_true rfl) ⟨Nat.le_of_ble_eq_true rfl, Nat.le_of_ble_eq_true rfl⟩ ⟨Nat.le_of_ble_eq_true rfl, Nat.le_of_ble_eq_true rfl⟩ (fun q z => mx_sub ((fun _ z => z) q z)) (fun H h => ⟨⟨_, h.2.1.1⟩, h.lift0 (fun _ z => z) (have h := h.2.1; zw_endOf0 hb h)⟩) ?_
  refine mw_steps X 2 (pc' := 20) (lv' := [(3, .ref (x + 1 + 15)), (0, .ref x), (1, .int (nI 0)), (2, .int (nI 4))]) (st' := [.int (nI 4)]) rfl ?_
  refine mw_tsIn X 4 rfl (by decide) 86 rfl (by decide) rfl rfl ?_
  refine mw_steps X 1 (pc' := 87) (lv' := [(3, .ref (x + 1 + 15)), (0, .ref x), (1, .int (nI 0)), (2, .int (nI 4))]) (st' := [.ref (x + 1 + 15)]) rfl ?_
  refine mw_get X kf_X4_116 kc_0 rfl (v := .int (W (14))) (fun H h => ⟨_, h.2.1.2.2.2.2.2.2.2.2.1, congrArg (fun z => some (Value.int z)) rfl⟩) ?_
  exact mw_iret X rfl rfl (fun H h => ⟨rfl, h⟩)
set_option maxHeartbeats 4000000 in
set_option maxRecDepth 20000 in
theorem zx_end05 {l : Launch} {Γ : mw_C} {x : Nat} (hx : Γ.2.2.2 ≤ x) {W : Nat → Int32} {ρ : md_R} {H : Heap}  (hH : mx_I Γ x W ρ H)  : mw_Cr l Γ mX4_end 3 0 0 (mx_A x) [.ref x, .int (nI 0), .int (nI 5)] H (some (.int (an_end W 0 5))) (mx_I Γ x W ρ) := by
  have hb : Γ.2.2.2 ≤ x + 1 := by omega
  refine mw_ofG (P := pX4_end) (by decide) (mx_As hx) oX4_end (Nat.le_of_ble_eq_true rfl) ?_
  intro pg e0 sg mg below meth cd X hs
  refine mw_pre (I' := mx_I Γ x W ρ) (fun H1 h1 => by rw [h1]; exact hH) ?_
  refine mw_steps X 1 (pc' := 1) (lv' := [(0, .ref x), (1, .int (nI 0)), (2, .int (nI 5))]) (st' := [.int (nI 0)]) rfl ?_
  refine mw_cS1r X kd_X4_isEnd ks_X4_isEnd kl_X4_95 rfl (Nat.le_of_ble_eq_true rfl) ⟨Nat.le_of_ble_eq_true rfl, Nat.le_of_ble_eq_true rfl⟩ ⟨Nat.le_of_ble_eq_true rfl, Nat.le_of_ble_eq_true rfl⟩ (fun _ h => h) (fun H h => zx_isEnd hx h) ?_
  refine mw_if_ne X 10 rfl rfl (fun c4 => ?_) (fun c4 => absurd c4 (by decide))
  refine mw_steps X 1 (pc' := 11) (lv' := [(0, .ref x), (1, .int (nI 0)), (2, .int (nI 5))]) (st' := [.ref x]) rfl ?_
  refine mw_get X kf_X4_10.fl kc_4 rfl (v := .ref (x + 1)) (fun H h => ⟨_, h.1, rfl⟩) ?_
  refine mw_steps X 1 (pc' := 15) (lv' := [(0, .ref x), (1, .int (nI 0)), (2, .int (nI 5))]) (st' := [.int (nI 0), .ref (x + 1)]) rfl ?_
  refine mw_cV1r X kd_X3_endOf kv_X3_endOf kl_X4_100 (ci := 3) rfl rfl (Nat.le_of_ble_eq_true rfl) ⟨Nat.le_of_ble_eq_true rfl, Nat.le_of_ble_eq_true rfl⟩ ⟨Nat.le_of_ble_eq_true rfl, Nat.le_of_ble_eq_true rfl⟩ (fun q z => mx_sub ((fun _ z => z) q z)) (fun H h => ⟨⟨_, h.2.1.1⟩, h.lift0 (fun _ z => z) (have h := h.2.1; zw_endOf0 hb h)⟩) ?_
  refine mw_steps X 2 (pc' := 20) (lv' := [(3, .ref (x + 1 + 15)), (0, .ref x), (1, .int (nI 0)), (2, .int (nI 5))]) (st' := [.int (nI 5)]) rfl ?_
  refine mw_tsIn X 5 rfl (by decide) 91 rfl (by decide) rfl rfl ?_
  refine mw_steps X 1 (pc' := 92) (lv' := [(3, .ref (x + 1 + 15)), (0, .ref x), (1, .int (nI 0)), (2, .int (nI 5))]) (st' := [.ref (x + 1 + 15)]) rfl ?_
  refine mw_get X kf_X4_119 kc_0 rfl (v := .int (W (16))) (fun H h => ⟨_, h.2.1.2.2.2.2.2.2.2.2.1, congrArg (fun z => some (Value.int z)) rfl⟩) ?_
  exact mw_iret X rfl rfl (fun H h => ⟨rfl, h⟩)
set_option maxHeartbeats 4000000 in
set_option maxRecDepth 20000 in
theorem zx_end0U {l : Launch} {Γ : mw_C} {x : Nat} (hx : Γ.2.2.2 ≤ x) {W : Nat → Int32} {ρ : md_R} {H : Heap} {z : Int32} (hH : mx_I Γ x W ρ H) (hz : mo_bl z 6 = false) : mw_Cr l Γ mX4_end 3 0 0 (mx_A x) [.ref x, .int (nI 0), .int z] H (some (.int oO)) (mx_I Γ x W ρ) := by
  have hb : Γ.2.2.2 ≤ x + 1 := by omega
  refine mw_ofG (P := pX4_end) (by decide) (mx_As hx) oX4_end (Nat.le_of_ble_eq_true rfl) ?_
  intro pg e0 sg mg below meth cd X hs
  refine mw_pre (I' := mx_I Γ x W ρ) (fun H1 h1 => by rw [h1]; exact hH) ?_
  refine mw_steps X 1 (pc' := 1) (lv' := [(0, .ref x), (1, .int (nI 0)), (2, .int z)]) (st' := [.int (nI 0)]) rfl ?_
  refine mw_cS1r X kd_X4_isEnd ks_X4_isEnd kl_X4_95 rfl (Nat.le_of_ble_eq_true rfl) ⟨Nat.le_of_ble_eq_true rfl, Nat.le_of_ble_eq_true rfl⟩ ⟨Nat.le_of_ble_eq_true rfl, Nat.le_of_ble_eq_true rfl⟩ (fun _ h => h) (fun H h => zx_isEnd hx h) ?_
  refine mw_if_ne X 10 rfl rfl (fun c4 => ?_) (fun c4 => absurd c4 (by decide))
  refine mw_steps X 1 (pc' := 11) (lv' := [(0, .ref x), (1, .int (nI 0)), (2, .int z)]) (st' := [.ref x]) rfl ?_
  refine mw_get X kf_X4_10.fl kc_4 rfl (v := .ref (x + 1)) (fun H h => ⟨_, h.1, rfl⟩) ?_
  refine mw_steps X 1 (pc' := 15) (lv' := [(0, .ref x), (1, .int (nI 0)), (2, .int z)]) (st' := [.int (nI 0), .ref (x + 1)]) rfl ?_
  refine mw_cV1r X kd_X3_endOf kv_X3_endOf kl_X4_100 (ci := 3) rfl rfl (Nat.le_of_ble_eq_true rfl) ⟨Nat.le_of_ble_eq_true rfl, Nat.le_of_ble_eq_true rfl⟩ ⟨Nat.le_of_ble_eq_true rfl, Nat.le_of_ble_eq_true rfl⟩ (fun q z => mx_sub ((fun _ z => z) q z)) (fun H h => ⟨⟨_, h.2.1.1⟩, h.lift0 (fun _ z => z) (have h := h.2.1; zw_endOf0 hb h)⟩) ?_
  refine mw_steps X 2 (pc' := 20) (lv' := [(3, .ref (x + 1 + 15)), (0, .ref x), (1, .int (nI 0)), (2, .int z)]) (st' := [.int z]) rfl ?_
  refine mw_tsOut X 96 rfl (by have := ml_out (by omega) hz; omega) rfl ?_
  refine mw_ldc X kk_X4_94 rfl ?_
  exact mw_iret X rfl rfl (fun H h => ⟨rfl, h⟩)
set_option maxHeartbeats 4000000 in
set_option maxRecDepth 20000 in
theorem zx_end10 {l : Launch} {Γ : mw_C} {x : Nat} (hx : Γ.2.2.2 ≤ x) {W : Nat → Int32} {ρ : md_R} {H : Heap}  (hH : mx_I Γ x W ρ H)  : mw_Cr l Γ mX4_end 3 0 0 (mx_A x) [.ref x, .int (nI 1), .int (nI 0)] H (some (.int (an_end W 1 0))) (mx_I Γ x W ρ) := by
  have hb : Γ.2.2.2 ≤ x + 1 := by omega
  refine mw_ofG (P := pX4_end) (by decide) (mx_As hx) oX4_end (Nat.le_of_ble_eq_true rfl) ?_
  intro pg e0 sg mg below meth cd X hs
  refine mw_pre (I' := mx_I Γ x W ρ) (fun H1 h1 => by rw [h1]; exact hH) ?_
  refine mw_steps X 1 (pc' := 1) (lv' := [(0, .ref x), (1, .int (nI 1)), (2, .int (nI 0))]) (st' := [.int (nI 1)]) rfl ?_
  refine mw_cS1r X kd_X4_isEnd ks_X4_isEnd kl_X4_95 rfl (Nat.le_of_ble_eq_true rfl) ⟨Nat.le_of_ble_eq_true rfl, Nat.le_of_ble_eq_true rfl⟩ ⟨Nat.le_of_ble_eq_true rfl, Nat.le_of_ble_eq_true rfl⟩ (fun _ h => h) (fun H h => zx_isEnd hx h) ?_
  refine mw_if_ne X 10 rfl rfl (fun c4 => ?_) (fun c4 => absurd c4 (by decide))
  refine mw_steps X 1 (pc' := 11) (lv' := [(0, .ref x), (1, .int (nI 1)), (2, .int (nI 0))]) (st' := [.ref x]) rfl ?_
  refine mw_get X kf_X4_10.fl kc_4 rfl (v := .ref (x + 1)) (fun H h => ⟨_, h.1, rfl⟩) ?_
  refine mw_steps X 1 (pc' := 15) (lv' := [(0, .ref x), (1, .int (nI 1)), (2, .int (nI 0))]) (st' := [.int (nI 1), .ref (x + 1)]) rfl ?_
  refine mw_cV1r X kd_X3_endOf kv_X3_endOf kl_X4_100 (ci := 3) rfl rfl (Nat.le_of_ble_eq_true rfl) ⟨Nat.le_of_ble_eq_true rfl, Nat.le_of_ble_eq_true rfl⟩ ⟨Nat.le_of_ble_eq_true rfl, Nat.le_of_ble_eq_true rfl⟩ (fun q z => mx_sub ((fun _ z => z) q z)) (fun H h => ⟨⟨_, h.2.1.1⟩, h.lift0 (fun _ z => z) (have h := h.2.1; zw_endOf1 hb h)⟩) ?_
  refine mw_steps X 2 (pc' := 20) (lv' := [(3, .ref (x + 1 + 20)), (0, .ref x), (1, .int (nI 1)), (2, .int (nI 0))]) (st' := [.int (nI 0)]) rfl ?_
  refine mw_tsIn X 0 rfl (by decide) 60 rfl (by decide) rfl rfl ?_
  refine mw_steps X 1 (pc' := 61) (lv' := [(3, .ref (x + 1 + 20)), (0, .ref x), (1, .int (nI 1)), (2, .int (nI 0))]) (st' := [.ref (x + 1 + 20)]) rfl ?_
  refine mw_get X kf_X4_104 kc_0 rfl (v := .int (W (19))) (fun H h => ⟨_, h.2.1.2.2.2.2.2.2.2.2.2.2.2.1, congrArg (fun z => some (Value.int z)) rfl⟩) ?_
  exact mw_iret X rfl rfl (fun H h => ⟨rfl, h⟩)
set_option maxHeartbeats 4000000 in
set_option maxRecDepth 20000 in
theorem zx_end11 {l : Launch} {Γ : mw_C} {x : Nat} (hx : Γ.2.2.2 ≤ x) {W : Nat → Int32} {ρ : md_R} {H : Heap}  (hH : mx_I Γ x W ρ H)  : mw_Cr l Γ mX4_end 3 0 0 (mx_A x) [.ref x, .int (nI 1), .int (nI 1)] H (some (.int (an_end W 1 1))) (mx_I Γ x W ρ) := by
  have hb : Γ.2.2.2 ≤ x + 1 := by omega
  refine mw_ofG (P := pX4_end) (by decide) (mx_As hx) oX4_end (Nat.le_of_ble_eq_true rfl) ?_
  intro pg e0 sg mg below meth cd X hs
  refine mw_pre (I' := mx_I Γ x W ρ) (fun H1 h1 => by rw [h1]; exact hH) ?_
  refine mw_steps X 1 (pc' := 1) (lv' := [(0, .ref x), (1, .int (nI 1)), (2, .int (nI 1))]) (st' := [.int (nI 1)]) rfl ?_
  refine mw_cS1r X kd_X4_isEnd ks_X4_isEnd kl_X4_95 rfl (Nat.le_of_ble_eq_true rfl) ⟨Nat.le_of_ble_eq_true rfl, Nat.le_of_ble_eq_true rfl⟩ ⟨Nat.le_of_ble_eq_true rfl, Nat.le_of_ble_eq_true rfl⟩ (fun _ h => h) (fun H h => zx_isEnd hx h) ?_
  refine mw_if_ne X 10 rfl rfl (fun c4 => ?_) (fun c4 => absurd c4 (by decide))
  refine mw_steps X 1 (pc' := 11) (lv' := [(0, .ref x), (1, .int (nI 1)), (2, .int (nI 1))]) (st' := [.ref x]) rfl ?_
  refine mw_get X kf_X4_10.fl kc_4 rfl (v := .ref (x + 1)) (fun H h => ⟨_, h.1, rfl⟩) ?_
  refine mw_steps X 1 (pc' := 15) (lv' := [(0, .ref x), (1, .int (nI 1)), (2, .int (nI 1))]) (st' := [.int (nI 1), .ref (x + 1)]) rfl ?_
  refine mw_cV1r X kd_X3_endOf kv_X3_endOf kl_X4_100 (ci := 3) rfl rfl (Nat.le_of_ble_eq_true rfl) ⟨Nat.le_of_ble_eq_true rfl, Nat.le_of_ble_eq_true rfl⟩ ⟨Nat.le_of_ble_eq_true rfl, Nat.le_of_ble_eq_true rfl⟩ (fun q z => mx_sub ((fun _ z => z) q z)) (fun H h => ⟨⟨_, h.2.1.1⟩, h.lift0 (fun _ z => z) (have h := h.2.1; zw_endOf1 hb h)⟩) ?_
  refine mw_steps X 2 (pc' := 20) (lv' := [(3, .ref (x + 1 + 20)), (0, .ref x), (1, .int (nI 1)), (2, .int (nI 1))]) (st' := [.int (nI 1)]) rfl ?_
  refine mw_tsIn X 1 rfl (by decide) 65 rfl (by decide) rfl rfl ?_
  refine mw_steps X 1 (pc' := 66) (lv' := [(3, .ref (x + 1 + 20)), (0, .ref x), (1, .int (nI 1)), (2, .int (nI 1))]) (st' := [.ref (x + 1 + 20)]) rfl ?_
  refine mw_get X kf_X4_107 kc_0 rfl (v := .ref (x + 1 + 21)) (fun H h => ⟨_, h.2.1.2.2.2.2.2.2.2.2.2.2.2.1, rfl⟩) ?_
  refine mw_cV0r X kd_X1_size kv_X1_size kl_X4_68 (ci := 1) rfl rfl (Nat.le_of_ble_eq_true rfl) ⟨Nat.le_of_ble_eq_true rfl, Nat.le_of_ble_eq_true rfl⟩ ⟨Nat.le_of_ble_eq_true rfl, Nat.le_of_ble_eq_true rfl⟩ (fun q z => mx_sub ((ws_sub 21 (by omega)) q z)) (fun H h => ⟨(have h := h.2.1; h.o_words1), h.lift0 (ws_sub 21 (by omega)) (have h := h.2.1; y12_size hb h)⟩) ?_
  exact mw_iret X rfl rfl (fun H h => ⟨rfl, h⟩)
set_option maxHeartbeats 4000000 in
set_option maxRecDepth 20000 in
theorem zx_end12 {l : Launch} {Γ : mw_C} {x : Nat} (hx : Γ.2.2.2 ≤ x) {W : Nat → Int32} {ρ : md_R} {H : Heap}  (hH : mx_I Γ x W ρ H)  : mw_Cr l Γ mX4_end 3 0 0 (mx_A x) [.ref x, .int (nI 1), .int (nI 2)] H (some (.int (an_end W 1 2))) (mx_I Γ x W ρ) := by
  have hb : Γ.2.2.2 ≤ x + 1 := by omega
  refine mw_ofG (P := pX4_end) (by decide) (mx_As hx) oX4_end (Nat.le_of_ble_eq_true rfl) ?_
  intro pg e0 sg mg below meth cd X hs
  refine mw_pre (I' := mx_I Γ x W ρ) (fun H1 h1 => by rw [h1]; exact hH) ?_
  refine mw_steps X 1 (pc' := 1) (lv' := [(0, .ref x), (1, .int (nI 1)), (2, .int (nI 2))]) (st' := [.int (nI 1)]) rfl ?_
  refine mw_cS1r X kd_X4_isEnd ks_X4_isEnd kl_X4_95 rfl (Nat.le_of_ble_eq_true rfl) ⟨Nat.le_of_ble_eq_true rfl, Nat.le_of_ble_eq_true rfl⟩ ⟨Nat.le_of_ble_eq_true rfl, Nat.le_of_ble_eq_true rfl⟩ (fun _ h => h) (fun H h => zx_isEnd hx h) ?_
  refine mw_if_ne X 10 rfl rfl (fun c4 => ?_) (fun c4 => absurd c4 (by decide))
  refine mw_steps X 1 (pc' := 11) (lv' := [(0, .ref x), (1, .int (nI 1)), (2, .int (nI 2))]) (st' := [.ref x]) rfl ?_
  refine mw_get X kf_X4_10.fl kc_4 rfl (v := .ref (x + 1)) (fun H h => ⟨_, h.1, rfl⟩) ?_
  refine mw_steps X 1 (pc' := 15) (lv' := [(0, .ref x), (1, .int (nI 1)), (2, .int (nI 2))]) (st' := [.int (nI 1), .ref (x + 1)]) rfl ?_
  refine mw_cV1r X kd_X3_endOf kv_X3_endOf kl_X4_100 (ci := 3) rfl rfl (Nat.le_of_ble_eq_true rfl) ⟨Nat.le_of_ble_eq_true rfl, Nat.le_of_ble_eq_true rfl⟩ ⟨Nat.le_of_ble_eq_true rfl, Nat.le_of_ble_eq_true rfl⟩ (fun q z => mx_sub ((fun _ z => z) q z)) (fun H h => ⟨⟨_, h.2.1.1⟩, h.lift0 (fun _ z => z) (have h := h.2.1; zw_endOf1 hb h)⟩) ?_
  refine mw_steps X 2 (pc' := 20) (lv' := [(3, .ref (x + 1 + 20)), (0, .ref x), (1, .int (nI 1)), (2, .int (nI 2))]) (st' := [.int (nI 2)]) rfl ?_
  refine mw_tsIn X 2 rfl (by decide) 73 rfl (by decide) rfl rfl ?_
  refine mw_steps X 1 (pc' := 74) (lv' := [(3, .ref (x + 1 + 20)), (0, .ref x), (1, .int (nI 1)), (2, .int (nI 2))]) (st' := [.ref (x + 1 + 20)]) rfl ?_
  refine mw_get X kf_X4_107 kc_0 rfl (v := .ref (x + 1 + 21)) (fun H h => ⟨_, h.2.1.2.2.2.2.2.2.2.2.2.2.2.1, rfl⟩) ?_
  refine mw_cV0r X kd_X1_inRow kv_X1_inRow kl_X4_110 (ci := 1) rfl rfl (Nat.le_of_ble_eq_true rfl) ⟨Nat.le_of_ble_eq_true rfl, Nat.le_of_ble_eq_true rfl⟩ ⟨Nat.le_of_ble_eq_true rfl, Nat.le_of_ble_eq_true rfl⟩ (fun q z => mx_sub ((ws_sub 21 (by omega)) q z)) (fun H h => ⟨(have h := h.2.1; h.o_words1), h.lift0 (ws_sub 21 (by omega)) (have h := h.2.1; y12_inRow hb h)⟩) ?_
  exact mw_iret X rfl rfl (fun H h => ⟨rfl, h⟩)
set_option maxHeartbeats 4000000 in
set_option maxRecDepth 20000 in
theorem zx_end13 {l : Launch} {Γ : mw_C} {x : Nat} (hx : Γ.2.2.2 ≤ x) {W : Nat → Int32} {ρ : md_R} {H : Heap}  (hH : mx_I Γ x W ρ H)  : mw_Cr l Γ mX4_end 3 0 0 (mx_A x) [.ref x, .int (nI 1), .int (nI 3)] H (some (.int (an_end W 1 3))) (mx_I Γ x W ρ) := by
  have hb : Γ.2.2.2 ≤ x + 1 := by omega
  refine mw_ofG (P := pX4_end) (by decide) (mx_As hx) oX4_end (Nat.le_of_ble_eq_true rfl) ?_
  intro pg e0 sg mg below meth cd X hs
  refine mw_pre (I' := mx_I Γ x W ρ) (fun H1 h1 => by rw [h1]; exact hH) ?_
  refine mw_steps X 1 (pc' := 1) (lv' := [(0, .ref x), (1, .int (nI 1)), (2, .int (nI 3))]) (st' := [.int (nI 1)]) rfl ?_
  refine mw_cS1r X kd_X4_isEnd ks_X4_isEnd kl_X4_95 rfl (Nat.le_of_ble_eq_true rfl) ⟨Nat.le_of_ble_eq_true rfl, Nat.le_of_ble_eq_true rfl⟩ ⟨Nat.le_of_ble_eq_true rfl, Nat.le_of_ble_eq_true rfl⟩ (fun _ h => h) (fun H h => zx_isEnd hx h) ?_
  refine mw_if_ne X 10 rfl rfl (fun c4 => ?_) (fun c4 => absurd c4 (by decide))
  refine mw_steps X 1 (pc' := 11) (lv' := [(0, .ref x), (1, .int (nI 1)), (2, .int (nI 3))]) (st' := [.ref x]) rfl ?_
  refine mw_get X kf_X4_10.fl kc_4 rfl (v := .ref (x + 1)) (fun H h => ⟨_, h.1, rfl⟩) ?_
  refine mw_steps X 1 (pc' := 15) (lv' := [(0, .ref x), (1, .int (nI 1)), (2, .int (nI 3))]) (st' := [.int (nI 1), .ref (x + 1)]) rfl ?_
  refine mw_cV1r X kd_X3_endOf kv_X3_endOf kl_X4_100 (ci := 3) rfl rfl (Nat.le_of_ble_eq_true rfl) ⟨Nat.le_of_ble_eq_true rfl, Nat.le_of_ble_eq_true rfl⟩ ⟨Nat.le_of_ble_eq_true rfl, Nat.le_of_ble_eq_true rfl⟩ (fun q z => mx_sub ((fun _ z => z) q z)) (fun H h => ⟨⟨_, h.2.1.1⟩, h.lift0 (fun _ z => z) (have h := h.2.1; zw_endOf1 hb h)⟩) ?_
  refine mw_steps X 2 (pc' := 20) (lv' := [(3, .ref (x + 1 + 20)), (0, .ref x), (1, .int (nI 1)), (2, .int (nI 3))]) (st' := [.int (nI 3)]) rfl ?_
  refine mw_tsIn X 3 rfl (by decide) 81 rfl (by decide) rfl rfl ?_
  refine mw_steps X 1 (pc' := 82) (lv' := [(3, .ref (x + 1 + 20)), (0, .ref x), (1, .int (nI 1)), (2, .int (nI 3))]) (st' := [.ref (x + 1 + 20)]) rfl ?_
  refine mw_get X kf_X4_113 kc_0 rfl (v := .int (W (21))) (fun H h => ⟨_, h.2.1.2.2.2.2.2.2.2.2.2.2.2.1, congrArg (fun z => some (Value.int z)) rfl⟩) ?_
  exact mw_iret X rfl rfl (fun H h => ⟨rfl, h⟩)
set_option maxHeartbeats 4000000 in
set_option maxRecDepth 20000 in
theorem zx_end14 {l : Launch} {Γ : mw_C} {x : Nat} (hx : Γ.2.2.2 ≤ x) {W : Nat → Int32} {ρ : md_R} {H : Heap}  (hH : mx_I Γ x W ρ H)  : mw_Cr l Γ mX4_end 3 0 0 (mx_A x) [.ref x, .int (nI 1), .int (nI 4)] H (some (.int (an_end W 1 4))) (mx_I Γ x W ρ) := by
  have hb : Γ.2.2.2 ≤ x + 1 := by omega
  refine mw_ofG (P := pX4_end) (by decide) (mx_As hx) oX4_end (Nat.le_of_ble_eq_true rfl) ?_
  intro pg e0 sg mg below meth cd X hs
  refine mw_pre (I' := mx_I Γ x W ρ) (fun H1 h1 => by rw [h1]; exact hH) ?_
  refine mw_steps X 1 (pc' := 1) (lv' := [(0, .ref x), (1, .int (nI 1)), (2, .int (nI 4))]) (st' := [.int (nI 1)]) rfl ?_
  refine mw_cS1r X kd_X4_isEnd ks_X4_isEnd kl_X4_95 rfl (Nat.le_of_ble_eq_true rfl) ⟨Nat.le_of_ble_eq_true rfl, Nat.le_of_ble_eq_true rfl⟩ ⟨Nat.le_of_ble_eq_true rfl, Nat.le_of_ble_eq_true rfl⟩ (fun _ h => h) (fun H h => zx_isEnd hx h) ?_
  refine mw_if_ne X 10 rfl rfl (fun c4 => ?_) (fun c4 => absurd c4 (by decide))
  refine mw_steps X 1 (pc' := 11) (lv' := [(0, .ref x), (1, .int (nI 1)), (2, .int (nI 4))]) (st' := [.ref x]) rfl ?_
  refine mw_get X kf_X4_10.fl kc_4 rfl (v := .ref (x + 1)) (fun H h => ⟨_, h.1, rfl⟩) ?_
  refine mw_steps X 1 (pc' := 15) (lv' := [(0, .ref x), (1, .int (nI 1)), (2, .int (nI 4))]) (st' := [.int (nI 1), .ref (x + 1)]) rfl ?_
  refine mw_cV1r X kd_X3_endOf kv_X3_endOf kl_X4_100 (ci := 3) rfl rfl (Nat.le_of_ble_eq_true rfl) ⟨Nat.le_of_ble_eq_true rfl, Nat.le_of_ble_eq_true rfl⟩ ⟨Nat.le_of_ble_eq_true rfl, Nat.le_of_ble_eq_true rfl⟩ (fun q z => mx_sub ((fun _ z => z) q z)) (fun H h => ⟨⟨_, h.2.1.1⟩, h.lift0 (fun _ z => z) (have h := h.2.1; zw_endOf1 hb h)⟩) ?_
  refine mw_steps X 2 (pc' := 20) (lv' := [(3, .ref (x + 1 + 20)), (0, .ref x), (1, .int (nI 1)), (2, .int (nI 4))]) (st' := [.int (nI 4)]) rfl ?_
  refine mw_tsIn X 4 rfl (by decide) 86 rfl (by decide) rfl rfl ?_
  refine mw_steps X 1 (pc' := 87) (lv' := [(3, .ref (x + 1 + 20)), (0, .ref x), (1, .int (nI 1)), (2, .int (nI 4))]) (st' := [.ref (x + 1 + 20)]) rfl ?_
  refine mw_get X kf_X4_116 kc_0 rfl (v := .int (W (15))) (fun H h => ⟨_, h.2.1.2.2.2.2.2.2.2.2.2.2.2.1, congrArg (fun z => some (Value.int z)) rfl⟩) ?_
  exact mw_iret X rfl rfl (fun H h => ⟨rfl, h⟩)
set_option maxHeartbeats 4000000 in
set_option maxRecDepth 20000 in
theorem zx_end15 {l : Launch} {Γ : mw_C} {x : Nat} (hx : Γ.2.2.2 ≤ x) {W : Nat → Int32} {ρ : md_R} {H : Heap}  (hH : mx_I Γ x W ρ H)  : mw_Cr l Γ mX4_end 3 0 0 (mx_A x) [.ref x, .int (nI 1), .int (nI 5)] H (some (.int (an_end W 1 5))) (mx_I Γ x W ρ) := by
  have hb : Γ.2.2.2 ≤ x + 1 := by omega
  refine mw_ofG (P := pX4_end) (by decide) (mx_As hx) oX4_end (Nat.le_of_ble_eq_true rfl) ?_
  intro pg e0 sg mg below meth cd X hs
  refine mw_pre (I' := mx_I Γ x W ρ) (fun H1 h1 => by rw [h1]; exact hH) ?_
  refine mw_steps X 1 (pc' := 1) (lv' := [(0, .ref x), (1, .int (nI 1)), (2, .int (nI 5))]) (st' := [.int (nI 1)]) rfl ?_
  refine mw_cS1r X kd_X4_isEnd ks_X4_isEnd kl_X4_95 rfl (Nat.le_of_ble_eq_true rfl) ⟨Nat.le_of_ble_eq_true rfl, Nat.le_of_ble_eq_true rfl⟩ ⟨Nat.le_of_ble_eq_true rfl, Nat.le_of_ble_eq_true rfl⟩ (fun _ h => h) (fun H h => zx_isEnd hx h) ?_
  refine mw_if_ne X 10 rfl rfl (fun c4 => ?_) (fun c4 => absurd c4 (by decide))
  refine mw_steps X 1 (pc' := 11) (lv' := [(0, .ref x), (1, .int (nI 1)), (2, .int (nI 5))]) (st' := [.ref x]) rfl ?_
  refine mw_get X kf_X4_10.fl kc_4 rfl (v := .ref (x + 1)) (fun H h => ⟨_, h.1, rfl⟩) ?_
  refine mw_steps X 1 (pc' := 15) (lv' := [(0, .ref x), (1, .int (nI 1)), (2, .int (nI 5))]) (st' := [.int (nI 1), .ref (x + 1)]) rfl ?_
  refine mw_cV1r X kd_X3_endOf kv_X3_endOf kl_X4_100 (ci := 3) rfl rfl (Nat.le_of_ble_eq_true rfl) ⟨Nat.le_of_ble_eq_true rfl, Nat.le_of_ble_eq_true rfl⟩ ⟨Nat.le_of_ble_eq_true rfl, Nat.le_of_ble_eq_true rfl⟩ (fun q z => mx_sub ((fun _ z => z) q z)) (fun H h => ⟨⟨_, h.2.1.1⟩, h.lift0 (fun _ z => z) (have h := h.2.1; zw_endOf1 hb h)⟩) ?_
  refine mw_steps X 2 (pc' := 20) (lv' := [(3, .ref (x + 1 + 20)), (0, .ref x), (1, .int (nI 1)), (2, .int (nI 5))]) (st' := [.int (nI 5)]) rfl ?_
  refine mw_tsIn X 5 rfl (by decide) 91 rfl (by decide) rfl rfl ?_
  refine mw_steps X 1 (pc' := 92) (lv' := [(3, .ref (x + 1 + 20)), (0, .ref x), (1, .int (nI 1)), (2, .int (nI 5))]) (st' := [.ref (x + 1 + 20)]) rfl ?_
  refine mw_get X kf_X4_119 kc_0 rfl (v := .int (W (17))) (fun H h => ⟨_, h.2.1.2.2.2.2.2.2.2.2.2.2.2.1, congrArg (fun z => some (Value.int z)) rfl⟩) ?_
  exact mw_iret X rfl rfl (fun H h => ⟨rfl, h⟩)
set_option maxHeartbeats 4000000 in
set_option maxRecDepth 20000 in
theorem zx_end1U {l : Launch} {Γ : mw_C} {x : Nat} (hx : Γ.2.2.2 ≤ x) {W : Nat → Int32} {ρ : md_R} {H : Heap} {z : Int32} (hH : mx_I Γ x W ρ H) (hz : mo_bl z 6 = false) : mw_Cr l Γ mX4_end 3 0 0 (mx_A x) [.ref x, .int (nI 1), .int z] H (some (.int oO)) (mx_I Γ x W ρ) := by
  have hb : Γ.2.2.2 ≤ x + 1 := by omega
  refine mw_ofG (P := pX4_end) (by decide) (mx_As hx) oX4_end (Nat.le_of_ble_eq_true rfl) ?_
  intro pg e0 sg mg below meth cd X hs
  refine mw_pre (I' := mx_I Γ x W ρ) (fun H1 h1 => by rw [h1]; exact hH) ?_
  refine mw_steps X 1 (pc' := 1) (lv' := [(0, .ref x), (1, .int (nI 1)), (2, .int z)]) (st' := [.int (nI 1)]) rfl ?_
  refine mw_cS1r X kd_X4_isEnd ks_X4_isEnd kl_X4_95 rfl (Nat.le_of_ble_eq_true rfl) ⟨Nat.le_of_ble_eq_true rfl, Nat.le_of_ble_eq_true rfl⟩ ⟨Nat.le_of_ble_eq_true rfl, Nat.le_of_ble_eq_true rfl⟩ (fun _ h => h) (fun H h => zx_isEnd hx h) ?_
  refine mw_if_ne X 10 rfl rfl (fun c4 => ?_) (fun c4 => absurd c4 (by decide))
  refine mw_steps X 1 (pc' := 11) (lv' := [(0, .ref x), (1, .int (nI 1)), (2, .int z)]) (st' := [.ref x]) rfl ?_
  refine mw_get X kf_X4_10.fl kc_4 rfl (v := .ref (x + 1)) (fun H h => ⟨_, h.1, rfl⟩) ?_
  refine mw_steps X 1 (pc' := 15) (lv' := [(0, .ref x), (1, .int (nI 1)), (2, .int z)]) (st' := [.int (nI 1), .ref (x + 1)]) rfl ?_
  refine mw_cV1r X kd_X3_endOf kv_X3_endOf kl_X4_100 (ci := 3) rfl rfl (Nat.le_of_ble_eq_true rfl) ⟨Nat.le_of_ble_eq_true rfl, Nat.le_of_ble_eq_true rfl⟩ ⟨Nat.le_of_ble_eq_true rfl, Nat.le_of_ble_eq_true rfl⟩ (fun q z => mx_sub ((fun _ z => z) q z)) (fun H h => ⟨⟨_, h.2.1.1⟩, h.lift0 (fun _ z => z) (have h := h.2.1; zw_endOf1 hb h)⟩) ?_
  refine mw_steps X 2 (pc' := 20) (lv' := [(3, .ref (x + 1 + 20)), (0, .ref x), (1, .int (nI 1)), (2, .int z)]) (st' := [.int z]) rfl ?_
  refine mw_tsOut X 96 rfl (by have := ml_out (by omega) hz; omega) rfl ?_
  refine mw_ldc X kk_X4_94 rfl ?_
  exact mw_iret X rfl rfl (fun H h => ⟨rfl, h⟩)
theorem zx_end {l : Launch} {Γ : mw_C} {x : Nat} (hx : Γ.2.2.2 ≤ x) {W : Nat → Int32} {ρ : md_R} {H : Heap} {y z : Int32} (hH : mx_I Γ x W ρ H) : mw_Cr l Γ mX4_end 3 0 0 (mx_A x) [.ref x, .int y, .int z] H (some (.int (op_end W y z))) (mx_I Γ x W ρ) := by
  unfold op_end
  cases hy : mo_bl y 2 with
  | false => rw [if_neg (by decide)]; exact zx_endN hx hH hy
  | true =>
    obtain ⟨e, he, rfl⟩ := mo_bl_t hy (by omega)
    rw [if_pos rfl, ml_n (show e ≤ 100000 by omega)]
    cases hz : mo_bl z 6 with
    | false =>
      rw [if_neg (by decide)]
      rcases (show e = 0 ∨ e = 1 by omega) with rfl | rfl
      · exact zx_end0U hx hH hz
      · exact zx_end1U hx hH hz
    | true =>
      obtain ⟨j, hj, rfl⟩ := mo_bl_t hz (by omega)
      rw [if_pos rfl, ml_n (show j ≤ 100000 by omega)]
      rcases (show e = 0 ∨ e = 1 by omega) with rfl | rfl
      · rcases (show j = 0 ∨ j = 1 ∨ j = 2 ∨ j = 3 ∨ j = 4 ∨ j = 5 by omega) with rfl | rfl | rfl | rfl | rfl | rfl
        · exact zx_end00 hx hH
        · exact zx_end01 hx hH
        · exact zx_end02 hx hH
        · exact zx_end03 hx hH
        · exact zx_end04 hx hH
        · exact zx_end05 hx hH
      · rcases (show j = 0 ∨ j = 1 ∨ j = 2 ∨ j = 3 ∨ j = 4 ∨ j = 5 by omega) with rfl | rfl | rfl | rfl | rfl | rfl
        · exact zx_end10 hx hH
        · exact zx_end11 hx hH
        · exact zx_end12 hx hH
        · exact zx_end13 hx hH
        · exact zx_end14 hx hH
        · exact zx_end15 hx hH
set_option maxHeartbeats 4000000 in
set_option maxRecDepth 20000 in
theorem zx_name {l : Launch} {Γ : mw_C} {x : Nat} (hx : Γ.2.2.2 ≤ x) {W : Nat → Int32} {ρ : md_R} {H : Heap} {c : Nat} {y : Int32} (hH : mx_I Γ x W ρ H) (hv : iv c W) : mw_Cr l Γ mX4_name 2 0 0 (mx_A x) [.ref x, .int y] H (some (.int (op_name W y))) (mx_I Γ x W ρ) := by
  have hb : Γ.2.2.2 ≤ x + 1 := by omega
  obtain ⟨g, hg2, hg40, hg, hnm⟩ := hv.2.2.2.2.2.2.1
  have hgn : mo_n (W 1) = g := by rw [hg, ml_n (by omega)]
  refine mw_ofG (P := pX4_name) (by decide) (mx_As hx) oX4_name (Nat.le_of_ble_eq_true rfl) ?_
  intro pg e0 sg mg below meth cd X hs
  refine mw_pre (I' := mx_I Γ x W ρ) (fun H1 h1 => by rw [h1]; exact hH) ?_
  refine mw_steps X 1 (pc' := 1) (lv' := [(0, .ref x), (1, .int y)]) (st' := [.int y]) rfl ?_
  refine mw_if_lt X 15 rfl rfl (fun c1 => ?_) (fun c1 => ?_)
  · refine mw_ldc X kk_X4_99 rfl ?_
    exact mw_iret X rfl rfl (fun H h => ⟨congrArg (fun z => some (Value.int z)) (Eq.symm (by unfold op_name; rw [hgn, if_neg (by unfold mo_bl; first | (rw [decide_eq_false (Int32.not_le.mpr c1)]; simp) | (rw [decide_eq_false c12]; simp))])), h⟩)
  · refine mw_steps X 2 (pc' := 6) (lv' := [(0, .ref x), (1, .int y)]) (st' := [.ref x, .int y]) rfl ?_
    refine mw_get X kf_X4_10.fl kc_4 rfl (v := .ref (x + 1)) (fun H h => ⟨_, h.1, rfl⟩) ?_
    refine mw_get X kf_X4_61 kc_3 rfl (v := .int (nI g)) (fun H h => ⟨_, h.2.1.1, congrArg (fun z => some (Value.int z)) hg⟩) ?_
    refine mw_icmp_lt X 18 rfl rfl (fun c12 => ?_) (fun c12 => ?_)
    · obtain ⟨k, hk31, rfl⟩ := nI_of (x := y) c1
      have hk : k < g := by rw [nI_ltI (by omega) (by omega)] at c12; exact c12
      have h01 := (hnm k (by omega)).1
      refine mw_steps X 1 (pc' := 19) (lv' := [(0, .ref x), (1, .int (nI k))]) (st' := [.ref x]) rfl ?_
      refine mw_get X kf_X4_10.fl kc_4 rfl (v := .ref (x + 1)) (fun H h => ⟨_, h.1, rfl⟩) ?_
      refine mw_get X kf_X4_64 kc_3 rfl (v := .ref (x + 1 + 9)) (fun H h => ⟨_, h.2.1.1, rfl⟩) ?_
      refine mw_steps X 1 (pc' := 26) (lv' := [(0, .ref x), (1, .int (nI k))]) (st' := [.int (nI k), .ref (x + 1 + 9)]) rfl ?_
      refine mw_cV1r X kd_X1_has kv_X1_has kl_X4_135 (ci := 1) rfl rfl (Nat.le_of_ble_eq_true rfl) ⟨Nat.le_of_ble_eq_true rfl, Nat.le_of_ble_eq_true rfl⟩ ⟨Nat.le_of_ble_eq_true rfl, Nat.le_of_ble_eq_true rfl⟩ (fun q z => mx_sub ((ws_sub 9 (by omega)) q z)) (fun H h => ⟨(have h := h.2.1; h.o_live), h.lift0 (ws_sub 9 (by omega)) (have h := h.2.1; y5_has hb h)⟩) ?_
      refine mw_top (y := mo_b (decide (W (47 + k) = nI 1))) (by rw [mo_bl_n (show k < 40 by omega) (by omega), ml_n (by omega), Bool.true_and]) ?_
      refine mw_if_eq X 36 rfl rfl (fun c29 => ?_) (fun c29 => ?_)
      · refine mw_steps X 2 (pc' := 38) (lv' := [(0, .ref x), (1, .int (nI k))]) (st' := [.ref x, .int (nI 0)]) rfl ?_
        refine mw_get X kf_X4_10.fl kc_4 rfl (v := .ref (x + 1)) (fun H h => ⟨_, h.1, rfl⟩) ?_
        refine mw_get X kf_X4_71 kc_3 rfl (v := .ref (x + 1 + 11)) (fun H h => ⟨_, h.2.1.1, rfl⟩) ?_
        refine mw_steps X 1 (pc' := 45) (lv' := [(0, .ref x), (1, .int (nI k))]) (st' := [.int (nI k), .ref (x + 1 + 11), .int (nI 0)]) rfl ?_
        refine mw_cV1r X kd_X1_has kv_X1_has kl_X4_135 (ci := 1) rfl rfl (Nat.le_of_ble_eq_true rfl) ⟨Nat.le_of_ble_eq_true rfl, Nat.le_of_ble_eq_true rfl⟩ ⟨Nat.le_of_ble_eq_true rfl, Nat.le_of_ble_eq_true rfl⟩ (fun q z => mx_sub ((ws_sub 11 (by omega)) q z)) (fun H h => ⟨(have h := h.2.1; h.o_spare), h.lift0 (ws_sub 11 (by omega)) (have h := h.2.1; y6_has hb h)⟩) ?_
        refine mw_top (y := mo_b (decide (W (87 + k) = nI 1))) (by rw [mo_bl_n (show k < 40 by omega) (by omega), ml_n (by omega), Bool.true_and]) ?_
        refine mw_if_eq X 55 rfl rfl (fun c48 => ?_) (fun c48 => ?_)
        · refine mw_steps X 2 (pc' := 57) (lv' := [(0, .ref x), (1, .int (nI k))]) (st' := [.int ((nI 0) + (nI 0))]) rfl ?_
          exact mw_iret X rfl rfl (fun H h => ⟨congrArg (fun z => some (Value.int z)) (Eq.symm (by (unfold op_name; rw [hgn, if_pos (mo_bl_n hk (by omega)), ml_n (by omega)]; first | rw [of_decide_eq_true (mo_b_nz c29)] | rw [show W (47 + k) = nI 0 from (by rcases h01 with q | q; exact q; exact absurd q (of_decide_eq_false (mo_b_z c29)))]); first | rw [if_pos (of_decide_eq_true (mo_b_nz c48))] | rw [if_neg (of_decide_eq_false (mo_b_z c48))])), h⟩)
        · refine mw_steps X 3 (pc' := 57) (lv' := [(0, .ref x), (1, .int (nI k))]) (st' := [.int ((nI 0) + (nI 2))]) rfl ?_
          exact mw_iret X rfl rfl (fun H h => ⟨congrArg (fun z => some (Value.int z)) (Eq.symm (by (unfold op_name; rw [hgn, if_pos (mo_bl_n hk (by omega)), ml_n (by omega)]; first | rw [of_decide_eq_true (mo_b_nz c29)] | rw [show W (47 + k) = nI 0 from (by rcases h01 with q | q; exact q; exact absurd q (of_decide_eq_false (mo_b_z c29)))]); first | rw [if_pos (of_decide_eq_true (mo_b_nz c48))] | rw [if_neg (of_decide_eq_false (mo_b_z c48))])), h⟩)
      · refine mw_steps X 3 (pc' := 38) (lv' := [(0, .ref x), (1, .int (nI k))]) (st' := [.ref x, .int (nI 1)]) rfl ?_
        refine mw_get X kf_X4_10.fl kc_4 rfl (v := .ref (x + 1)) (fun H h => ⟨_, h.1, rfl⟩) ?_
        refine mw_get X kf_X4_71 kc_3 rfl (v := .ref (x + 1 + 11)) (fun H h => ⟨_, h.2.1.1, rfl⟩) ?_
        refine mw_steps X 1 (pc' := 45) (lv' := [(0, .ref x), (1, .int (nI k))]) (st' := [.int (nI k), .ref (x + 1 + 11), .int (nI 1)]) rfl ?_
        refine mw_cV1r X kd_X1_has kv_X1_has kl_X4_135 (ci := 1) rfl rfl (Nat.le_of_ble_eq_true rfl) ⟨Nat.le_of_ble_eq_true rfl, Nat.le_of_ble_eq_true rfl⟩ ⟨Nat.le_of_ble_eq_true rfl, Nat.le_of_ble_eq_true rfl⟩ (fun q z => mx_sub ((ws_sub 11 (by omega)) q z)) (fun H h => ⟨(have h := h.2.1; h.o_spare), h.lift0 (ws_sub 11 (by omega)) (have h := h.2.1; y6_has hb h)⟩) ?_
        refine mw_top (y := mo_b (decide (W (87 + k) = nI 1))) (by rw [mo_bl_n (show k < 40 by omega) (by omega), ml_n (by omega), Bool.true_and]) ?_
        refine mw_if_eq X 55 rfl rfl (fun c48 => ?_) (fun c48 => ?_)
        · refine mw_steps X 2 (pc' := 57) (lv' := [(0, .ref x), (1, .int (nI k))]) (st' := [.int ((nI 1) + (nI 0))]) rfl ?_
          exact mw_iret X rfl rfl (fun H h => ⟨congrArg (fun z => some (Value.int z)) (Eq.symm (by (unfold op_name; rw [hgn, if_pos (mo_bl_n hk (by omega)), ml_n (by omega)]; first | rw [of_decide_eq_true (mo_b_nz c29)] | rw [show W (47 + k) = nI 0 from (by rcases h01 with q | q; exact q; exact absurd q (of_decide_eq_false (mo_b_z c29)))]); first | rw [if_pos (of_decide_eq_true (mo_b_nz c48))] | rw [if_neg (of_decide_eq_false (mo_b_z c48))])), h⟩)
        · refine mw_steps X 3 (pc' := 57) (lv' := [(0, .ref x), (1, .int (nI k))]) (st' := [.int ((nI 1) + (nI 2))]) rfl ?_
          exact mw_iret X rfl rfl (fun H h => ⟨congrArg (fun z => some (Value.int z)) (Eq.symm (by (unfold op_name; rw [hgn, if_pos (mo_bl_n hk (by omega)), ml_n (by omega)]; first | rw [of_decide_eq_true (mo_b_nz c29)] | rw [show W (47 + k) = nI 0 from (by rcases h01 with q | q; exact q; exact absurd q (of_decide_eq_false (mo_b_z c29)))]); first | rw [if_pos (of_decide_eq_true (mo_b_nz c48))] | rw [if_neg (of_decide_eq_false (mo_b_z c48))])), h⟩)
    · refine mw_ldc X kk_X4_99 rfl ?_
      exact mw_iret X rfl rfl (fun H h => ⟨congrArg (fun z => some (Value.int z)) (Eq.symm (by unfold op_name; rw [hgn, if_neg (by unfold mo_bl; first | (rw [decide_eq_false (Int32.not_le.mpr c1)]; simp) | (rw [decide_eq_false c12]; simp))])), h⟩)
set_option maxHeartbeats 4000000 in
set_option maxRecDepth 20000 in
theorem zx_wordN {l : Launch} {Γ : mw_C} {x : Nat} (hx : Γ.2.2.2 ≤ x) {W : Nat → Int32} {ρ : md_R} {H : Heap} {y z : Int32} (hH : mx_I Γ x W ρ H) (hy : mo_bl y 2 = false) : mw_Cr l Γ mX4_word 2 0 0 (mx_A x) [.ref x, .int y, .int z] H (some (.int (op_word W y z))) (mx_I Γ x W ρ) := by
  have hb : Γ.2.2.2 ≤ x + 1 := by omega
  refine mw_ofG (P := pX4_word) (by decide) (mx_As hx) oX4_word (Nat.le_of_ble_eq_true rfl) ?_
  intro pg e0 sg mg below meth cd X hs
  refine mw_pre (I' := mx_I Γ x W ρ) (fun H1 h1 => by rw [h1]; exact hH) ?_
  refine mw_steps X 1 (pc' := 1) (lv' := [(0, .ref x), (1, .int y), (2, .int z)]) (st' := [.int y]) rfl ?_
  refine mw_cS1r X kd_X4_isEnd ks_X4_isEnd kl_X4_95 rfl (Nat.le_of_ble_eq_true rfl) ⟨Nat.le_of_ble_eq_true rfl, Nat.le_of_ble_eq_true rfl⟩ ⟨Nat.le_of_ble_eq_true rfl, Nat.le_of_ble_eq_true rfl⟩ (fun _ h => h) (fun H h => zx_isEnd hx h) ?_
  refine mw_if_eq X 29 rfl rfl (fun c4 => ?_) (fun c4 => absurd (by rw [hy]; rfl) c4)
  refine mw_ldc X kk_X4_99 rfl ?_
  exact mw_iret X rfl rfl (fun H h => ⟨congrArg (fun z => some (Value.int z)) (Eq.symm (by unfold op_word; rw [hy, if_neg (by decide)])), h⟩)
set_option maxHeartbeats 4000000 in
set_option maxRecDepth 20000 in
theorem zx_word0 {l : Launch} {Γ : mw_C} {x : Nat} (hx : Γ.2.2.2 ≤ x) {W : Nat → Int32} {ρ : md_R} {H : Heap} {c : Nat} {z : Int32} (hH : mx_I Γ x W ρ H) (hv : iv c W) : mw_Cr l Γ mX4_word 2 0 0 (mx_A x) [.ref x, .int (nI 0), .int z] H (some (.int (op_word W (nI 0) z))) (mx_I Γ x W ρ) := by
  have hb : Γ.2.2.2 ≤ x + 1 := by omega
  obtain ⟨⟨n, hn2, hn⟩, -⟩ := hv.2.2.2.2.2.2.2.1 1 (by omega)
  have hnn : mo_n (W (19 - 0)) = n := by show mo_n (W 19) = n; rw [show W 19 = nI n from hn, ml_n (by omega)]
  have hop : op_word W (nI 0) z = if mo_bl z n = true then W (127 + 100 * 0 + mo_n z) else oU := by unfold op_word; rw [if_pos (mo_bl_n (show 0 < 2 by omega) (by omega)), ml_n (show 0 ≤ 100000 by omega), hnn]
  rw [hop]
  refine mw_ofG (P := pX4_word) (by decide) (mx_As hx) oX4_word (Nat.le_of_ble_eq_true rfl) ?_
  intro pg e0 sg mg below meth cd X hs
  refine mw_pre (I' := mx_I Γ x W ρ) (fun H1 h1 => by rw [h1]; exact hH) ?_
  refine mw_steps X 1 (pc' := 1) (lv' := [(0, .ref x), (1, .int (nI 0)), (2, .int z)]) (st' := [.int (nI 0)]) rfl ?_
  refine mw_cS1r X kd_X4_isEnd ks_X4_isEnd kl_X4_95 rfl (Nat.le_of_ble_eq_true rfl) ⟨Nat.le_of_ble_eq_true rfl, Nat.le_of_ble_eq_true rfl⟩ ⟨Nat.le_of_ble_eq_true rfl, Nat.le_of_ble_eq_true rfl⟩ (fun _ h => h) (fun H h => zx_isEnd hx h) ?_
  refine mw_if_eq X 29 rfl rfl (fun c4 => absurd c4 (by decide)) (fun c4 => ?_)
  refine mw_steps X 1 (pc' := 8) (lv' := [(0, .ref x), (1, .int (nI 0)), (2, .int z)]) (st' := [.int z]) rfl ?_
  refine mw_if_lt X 29 rfl rfl (fun c8 => ?_) (fun c8 => ?_)
  · refine mw_ldc X kk_X4_99 rfl ?_
    exact mw_iret X rfl rfl (fun H h => ⟨congrArg (fun z => some (Value.int z)) (Eq.symm (by rw [if_neg (by unfold mo_bl; first | (rw [decide_eq_false (Int32.not_le.mpr c8)]; simp) | (rw [decide_eq_false c26]; simp))])), h⟩)
  · refine mw_steps X 2 (pc' := 13) (lv' := [(0, .ref x), (1, .int (nI 0)), (2, .int z)]) (st' := [.ref x, .int z]) rfl ?_
    refine mw_get X kf_X4_10.fl kc_4 rfl (v := .ref (x + 1)) (fun H h => ⟨_, h.1, rfl⟩) ?_
    refine mw_steps X 1 (pc' := 17) (lv' := [(0, .ref x), (1, .int (nI 0)), (2, .int z)]) (st' := [.int (nI 0), .ref (x + 1), .int z]) rfl ?_
    refine mw_cS1r X kd_X4_otherOf ks_X4_otherOf kl_X4_138 rfl (Nat.le_of_ble_eq_true rfl) ⟨Nat.le_of_ble_eq_true rfl, Nat.le_of_ble_eq_true rfl⟩ ⟨Nat.le_of_ble_eq_true rfl, Nat.le_of_ble_eq_true rfl⟩ (fun _ h => h) (fun H h => zx_other0 hx h) ?_
    refine mw_cV1r X kd_X3_endOf kv_X3_endOf kl_X4_100 (ci := 3) rfl rfl (Nat.le_of_ble_eq_true rfl) ⟨Nat.le_of_ble_eq_true rfl, Nat.le_of_ble_eq_true rfl⟩ ⟨Nat.le_of_ble_eq_true rfl, Nat.le_of_ble_eq_true rfl⟩ (fun q z => mx_sub ((fun _ z => z) q z)) (fun H h => ⟨⟨_, h.2.1.1⟩, h.lift0 (fun _ z => z) (have h := h.2.1; zw_endOf1 hb h)⟩) ?_
    refine mw_get X kf_X4_104 kc_0 rfl (v := .int (nI n)) (fun H h => ⟨_, h.2.1.2.2.2.2.2.2.2.2.2.2.2.1, congrArg (fun z => some (Value.int z)) hn⟩) ?_
    refine mw_icmp_lt X 32 rfl rfl (fun c26 => ?_) (fun c26 => ?_)
    · obtain ⟨k, hk31, rfl⟩ := nI_of (x := z) c8
      have hk : k < n := by rw [nI_ltI (by omega) (by omega)] at c26; exact c26
      have h01 := (hv.2.2.2.2.2.2.2.1 0 (by omega)).2.2.2 k (by omega)
      refine mw_steps X 1 (pc' := 33) (lv' := [(0, .ref x), (1, .int (nI 0)), (2, .int (nI k))]) (st' := [.ref x]) rfl ?_
      refine mw_get X kf_X4_10.fl kc_4 rfl (v := .ref (x + 1)) (fun H h => ⟨_, h.1, rfl⟩) ?_
      refine mw_steps X 1 (pc' := 37) (lv' := [(0, .ref x), (1, .int (nI 0)), (2, .int (nI k))]) (st' := [.int (nI 0), .ref (x + 1)]) rfl ?_
      refine mw_cV1r X kd_X3_endOf kv_X3_endOf kl_X4_100 (ci := 3) rfl rfl (Nat.le_of_ble_eq_true rfl) ⟨Nat.le_of_ble_eq_true rfl, Nat.le_of_ble_eq_true rfl⟩ ⟨Nat.le_of_ble_eq_true rfl, Nat.le_of_ble_eq_true rfl⟩ (fun q z => mx_sub ((fun _ z => z) q z)) (fun H h => ⟨⟨_, h.2.1.1⟩, h.lift0 (fun _ z => z) (have h := h.2.1; zw_endOf0 hb h)⟩) ?_
      refine mw_get X kf_X4_107 kc_0 rfl (v := .ref (x + 1 + 16)) (fun H h => ⟨_, h.2.1.2.2.2.2.2.2.2.2.1, rfl⟩) ?_
      refine mw_steps X 1 (pc' := 44) (lv' := [(0, .ref x), (1, .int (nI 0)), (2, .int (nI k))]) (st' := [.int (nI k), .ref (x + 1 + 16)]) rfl ?_
      refine mw_cV1r X kd_X1_has kv_X1_has kl_X4_135 (ci := 1) rfl rfl (Nat.le_of_ble_eq_true rfl) ⟨Nat.le_of_ble_eq_true rfl, Nat.le_of_ble_eq_true rfl⟩ ⟨Nat.le_of_ble_eq_true rfl, Nat.le_of_ble_eq_true rfl⟩ (fun q z => mx_sub ((ws_sub 16 (by omega)) q z)) (fun H h => ⟨(have h := h.2.1; h.o_words0), h.lift0 (ws_sub 16 (by omega)) (have h := h.2.1; y9_has hb h)⟩) ?_
      refine mw_top (y := mo_b (decide (W (127 + 100 * 0 + k) = nI 1))) (by rw [mo_bl_n (show k < 100 by omega) (by omega), ml_n (by omega), Bool.true_and]) ?_
      refine mw_if_eq X 54 rfl rfl (fun c47 => ?_) (fun c47 => ?_)
      · refine mw_steps X 1 (pc' := 55) (lv' := [(0, .ref x), (1, .int (nI 0)), (2, .int (nI k))]) (st' := [.int (nI 0)]) rfl ?_
        exact mw_iret X rfl rfl (fun H h => ⟨congrArg (fun z => some (Value.int z)) (Eq.symm (by rw [if_pos (mo_bl_n hk (by omega)), ml_n (by omega)]; first | exact of_decide_eq_true (mo_b_nz c47) | (rcases h01 with q | q; exact q; exact absurd q (of_decide_eq_false (mo_b_z c47))))), h⟩)
      · refine mw_steps X 2 (pc' := 55) (lv' := [(0, .ref x), (1, .int (nI 0)), (2, .int (nI k))]) (st' := [.int (nI 1)]) rfl ?_
        exact mw_iret X rfl rfl (fun H h => ⟨congrArg (fun z => some (Value.int z)) (Eq.symm (by rw [if_pos (mo_bl_n hk (by omega)), ml_n (by omega)]; first | exact of_decide_eq_true (mo_b_nz c47) | (rcases h01 with q | q; exact q; exact absurd q (of_decide_eq_false (mo_b_z c47))))), h⟩)
    · refine mw_ldc X kk_X4_99 rfl ?_
      exact mw_iret X rfl rfl (fun H h => ⟨congrArg (fun z => some (Value.int z)) (Eq.symm (by rw [if_neg (by unfold mo_bl; first | (rw [decide_eq_false (Int32.not_le.mpr c8)]; simp) | (rw [decide_eq_false c26]; simp))])), h⟩)
set_option maxHeartbeats 4000000 in
set_option maxRecDepth 20000 in
theorem zx_word1 {l : Launch} {Γ : mw_C} {x : Nat} (hx : Γ.2.2.2 ≤ x) {W : Nat → Int32} {ρ : md_R} {H : Heap} {c : Nat} {z : Int32} (hH : mx_I Γ x W ρ H) (hv : iv c W) : mw_Cr l Γ mX4_word 2 0 0 (mx_A x) [.ref x, .int (nI 1), .int z] H (some (.int (op_word W (nI 1) z))) (mx_I Γ x W ρ) := by
  have hb : Γ.2.2.2 ≤ x + 1 := by omega
  obtain ⟨⟨n, hn2, hn⟩, -⟩ := hv.2.2.2.2.2.2.2.1 0 (by omega)
  have hnn : mo_n (W (19 - 1)) = n := by show mo_n (W 18) = n; rw [show W 18 = nI n from hn, ml_n (by omega)]
  have hop : op_word W (nI 1) z = if mo_bl z n = true then W (127 + 100 * 1 + mo_n z) else oU := by unfold op_word; rw [if_pos (mo_bl_n (show 1 < 2 by omega) (by omega)), ml_n (show 1 ≤ 100000 by omega), hnn]
  rw [hop]
  refine mw_ofG (P := pX4_word) (by decide) (mx_As hx) oX4_word (Nat.le_of_ble_eq_true rfl) ?_
  intro pg e0 sg mg below meth cd X hs
  refine mw_pre (I' := mx_I Γ x W ρ) (fun H1 h1 => by rw [h1]; exact hH) ?_
  refine mw_steps X 1 (pc' := 1) (lv' := [(0, .ref x), (1, .int (nI 1)), (2, .int z)]) (st' := [.int (nI 1)]) rfl ?_
  refine mw_cS1r X kd_X4_isEnd ks_X4_isEnd kl_X4_95 rfl (Nat.le_of_ble_eq_true rfl) ⟨Nat.le_of_ble_eq_true rfl, Nat.le_of_ble_eq_true rfl⟩ ⟨Nat.le_of_ble_eq_true rfl, Nat.le_of_ble_eq_true rfl⟩ (fun _ h => h) (fun H h => zx_isEnd hx h) ?_
  refine mw_if_eq X 29 rfl rfl (fun c4 => absurd c4 (by decide)) (fun c4 => ?_)
  refine mw_steps X 1 (pc' := 8) (lv' := [(0, .ref x), (1, .int (nI 1)), (2, .int z)]) (st' := [.int z]) rfl ?_
  refine mw_if_lt X 29 rfl rfl (fun c8 => ?_) (fun c8 => ?_)
  · refine mw_ldc X kk_X4_99 rfl ?_
    exact mw_iret X rfl rfl (fun H h => ⟨congrArg (fun z => some (Value.int z)) (Eq.symm (by rw [if_neg (by unfold mo_bl; first | (rw [decide_eq_false (Int32.not_le.mpr c8)]; simp) | (rw [decide_eq_false c26]; simp))])), h⟩)
  · refine mw_steps X 2 (pc' := 13) (lv' := [(0, .ref x), (1, .int (nI 1)), (2, .int z)]) (st' := [.ref x, .int z]) rfl ?_
    refine mw_get X kf_X4_10.fl kc_4 rfl (v := .ref (x + 1)) (fun H h => ⟨_, h.1, rfl⟩) ?_
    refine mw_steps X 1 (pc' := 17) (lv' := [(0, .ref x), (1, .int (nI 1)), (2, .int z)]) (st' := [.int (nI 1), .ref (x + 1), .int z]) rfl ?_
    refine mw_cS1r X kd_X4_otherOf ks_X4_otherOf kl_X4_138 rfl (Nat.le_of_ble_eq_true rfl) ⟨Nat.le_of_ble_eq_true rfl, Nat.le_of_ble_eq_true rfl⟩ ⟨Nat.le_of_ble_eq_true rfl, Nat.le_of_ble_eq_true rfl⟩ (fun _ h => h) (fun H h => zx_other1 hx h) ?_
    refine mw_cV1r X kd_X3_endOf kv_X3_endOf kl_X4_100 (ci := 3) rfl rfl (Nat.le_of_ble_eq_true rfl) ⟨Nat.le_of_ble_eq_true rfl, Nat.le_of_ble_eq_true rfl⟩ ⟨Nat.le_of_ble_eq_true rfl, Nat.le_of_ble_eq_true rfl⟩ (fun q z => mx_sub ((fun _ z => z) q z)) (fun H h => ⟨⟨_, h.2.1.1⟩, h.lift0 (fun _ z => z) (have h := h.2.1; zw_endOf0 hb h)⟩) ?_
    refine mw_get X kf_X4_104 kc_0 rfl (v := .int (nI n)) (fun H h => ⟨_, h.2.1.2.2.2.2.2.2.2.2.1, congrArg (fun z => some (Value.int z)) hn⟩) ?_
    refine mw_icmp_lt X 32 rfl rfl (fun c26 => ?_) (fun c26 => ?_)
    · obtain ⟨k, hk31, rfl⟩ := nI_of (x := z) c8
      have hk : k < n := by rw [nI_ltI (by omega) (by omega)] at c26; exact c26
      have h01 := (hv.2.2.2.2.2.2.2.1 1 (by omega)).2.2.2 k (by omega)
      refine mw_steps X 1 (pc' := 33) (lv' := [(0, .ref x), (1, .int (nI 1)), (2, .int (nI k))]) (st' := [.ref x]) rfl ?_
      refine mw_get X kf_X4_10.fl kc_4 rfl (v := .ref (x + 1)) (fun H h => ⟨_, h.1, rfl⟩) ?_
      refine mw_steps X 1 (pc' := 37) (lv' := [(0, .ref x), (1, .int (nI 1)), (2, .int (nI k))]) (st' := [.int (nI 1), .ref (x + 1)]) rfl ?_
      refine mw_cV1r X kd_X3_endOf kv_X3_endOf kl_X4_100 (ci := 3) rfl rfl (Nat.le_of_ble_eq_true rfl) ⟨Nat.le_of_ble_eq_true rfl, Nat.le_of_ble_eq_true rfl⟩ ⟨Nat.le_of_ble_eq_true rfl, Nat.le_of_ble_eq_true rfl⟩ (fun q z => mx_sub ((fun _ z => z) q z)) (fun H h => ⟨⟨_, h.2.1.1⟩, h.lift0 (fun _ z => z) (have h := h.2.1; zw_endOf1 hb h)⟩) ?_
      refine mw_get X kf_X4_107 kc_0 rfl (v := .ref (x + 1 + 21)) (fun H h => ⟨_, h.2.1.2.2.2.2.2.2.2.2.2.2.2.1, rfl⟩) ?_
      refine mw_steps X 1 (pc' := 44) (lv' := [(0, .ref x), (1, .int (nI 1)), (2, .int (nI k))]) (st' := [.int (nI k), .ref (x + 1 + 21)]) rfl ?_
      refine mw_cV1r X kd_X1_has kv_X1_has kl_X4_135 (ci := 1) rfl rfl (Nat.le_of_ble_eq_true rfl) ⟨Nat.le_of_ble_eq_true rfl, Nat.le_of_ble_eq_true rfl⟩ ⟨Nat.le_of_ble_eq_true rfl, Nat.le_of_ble_eq_true rfl⟩ (fun q z => mx_sub ((ws_sub 21 (by omega)) q z)) (fun H h => ⟨(have h := h.2.1; h.o_words1), h.lift0 (ws_sub 21 (by omega)) (have h := h.2.1; y12_has hb h)⟩) ?_
      refine mw_top (y := mo_b (decide (W (127 + 100 * 1 + k) = nI 1))) (by rw [mo_bl_n (show k < 100 by omega) (by omega), ml_n (by omega), Bool.true_and]) ?_
      refine mw_if_eq X 54 rfl rfl (fun c47 => ?_) (fun c47 => ?_)
      · refine mw_steps X 1 (pc' := 55) (lv' := [(0, .ref x), (1, .int (nI 1)), (2, .int (nI k))]) (st' := [.int (nI 0)]) rfl ?_
        exact mw_iret X rfl rfl (fun H h => ⟨congrArg (fun z => some (Value.int z)) (Eq.symm (by rw [if_pos (mo_bl_n hk (by omega)), ml_n (by omega)]; first | exact of_decide_eq_true (mo_b_nz c47) | (rcases h01 with q | q; exact q; exact absurd q (of_decide_eq_false (mo_b_z c47))))), h⟩)
      · refine mw_steps X 2 (pc' := 55) (lv' := [(0, .ref x), (1, .int (nI 1)), (2, .int (nI k))]) (st' := [.int (nI 1)]) rfl ?_
        exact mw_iret X rfl rfl (fun H h => ⟨congrArg (fun z => some (Value.int z)) (Eq.symm (by rw [if_pos (mo_bl_n hk (by omega)), ml_n (by omega)]; first | exact of_decide_eq_true (mo_b_nz c47) | (rcases h01 with q | q; exact q; exact absurd q (of_decide_eq_false (mo_b_z c47))))), h⟩)
    · refine mw_ldc X kk_X4_99 rfl ?_
      exact mw_iret X rfl rfl (fun H h => ⟨congrArg (fun z => some (Value.int z)) (Eq.symm (by rw [if_neg (by unfold mo_bl; first | (rw [decide_eq_false (Int32.not_le.mpr c8)]; simp) | (rw [decide_eq_false c26]; simp))])), h⟩)
theorem zx_word {l : Launch} {Γ : mw_C} {x : Nat} (hx : Γ.2.2.2 ≤ x) {W : Nat → Int32} {ρ : md_R} {H : Heap} {c : Nat} {y z : Int32} (hH : mx_I Γ x W ρ H) (hv : iv c W) : mw_Cr l Γ mX4_word 2 0 0 (mx_A x) [.ref x, .int y, .int z] H (some (.int (op_word W y z))) (mx_I Γ x W ρ) := by
  cases hb : mo_bl y 2 with
  | false => exact zx_wordN hx hH hb
  | true =>
    obtain ⟨j, hj, rfl⟩ := mo_bl_t hb (by omega)
    rcases (show j = 0 ∨ j = 1 by omega) with rfl | rfl
    · exact zx_word0 hx hH hv
    · exact zx_word1 hx hH hv
