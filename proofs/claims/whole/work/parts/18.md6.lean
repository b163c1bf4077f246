set_option maxHeartbeats 4000000 in
set_option maxRecDepth 20000 in
theorem cm_sure {l : Launch} {Γ : mw_C} {mb : Nat} (hmb : Γ.2.2.2 ≤ mb) {W : Nat → Int32} {ρ : md_R} {H : Heap} {c : Nat} {x : Int32} (hH : md_I Γ mb W ρ H) (hv : iv c W) : mw_Cr l Γ mX5_sureBy 4 0 0 (md_A mb) [.ref mb, .int x] H none (md_I Γ mb (mo_sure W x) ρ) := by
  have hn := ml_i13 hv.1
  have hn2 := ml_n6 hv.1
  refine mw_ofG (P := pX5_sureBy) (by decide) (md_As hmb) oX5_sureBy (Nat.le_of_ble_eq_true rfl) ?_
  intro pg e0 sg mg below meth cd X hs
  refine mw_pre (I' := md_I Γ mb W ρ) (fun H1 h1 => by rw [h1]; exact hH) ?_
  refine mw_steps X 4 (pc' := 4) (lv' := [(0, .ref mb), (1, .int x)]) (st' := [.int x, .int (nI 1), .int (nI 0), .ref mb]) rfl ?_
  refine mw_cV3r X kd_X5_findAsked kv_X5_findAsked kl_X5_50 (ci := 5) rfl rfl (Nat.le_of_ble_eq_true rfl) ⟨Nat.le_of_ble_eq_true rfl, Nat.le_of_ble_eq_true rfl⟩ ⟨Nat.le_of_ble_eq_true rfl, Nat.le_of_ble_eq_true rfl⟩ (fun _ h => h) (fun H h => ⟨⟨_, h.1⟩, cm_fa hmb h (e := 0) (wh := 1) hn hn2 (by omega)⟩) ?_
  refine mw_steps X 1 (pc' := 8) (lv' := [(2, .int (mo_ix (mo_fa W 0 1 x) (mo_n (W 13)))), (0, .ref mb), (1, .int x)]) (st' := []) rfl ?_
  by_cases hf : mo_fa W 0 1 x < mo_n (W 13)
  · obtain ⟨e1, pl, tr, -, hpl, -, -, hpp, -⟩ := hv.2.2.2.2.1 _ hf
    rw [show mo_ix (mo_fa W 0 1 x) (mo_n (W 13)) = nI (mo_fa W 0 1 x) from if_pos hf]
    obtain ⟨k, hk⟩ : ∃ k, k = mo_fa W 0 1 x := ⟨_, rfl⟩
    rw [← hk] at hf hpp ⊢
    refine mw_steps X 1 (pc' := 9) (lv' := [(2, .int (nI k)), (0, .ref mb), (1, .int x)]) (st' := [.int (nI k)]) rfl ?_
    refine mw_if_lt X 46 rfl rfl (fun c9 => absurd c9 (nI_pos (by omega))) (fun c9 => ?_)
    refine mw_steps X 1 (pc' := 13) (lv' := [(2, .int (nI k)), (0, .ref mb), (1, .int x)]) (st' := [.ref mb]) rfl ?_
    refine mw_get X kf_X5_7.fl kc_5 rfl (v := .ref (mb + 1)) (fun H h => ⟨_, h.1, rfl⟩) ?_
    refine mw_steps X 2 (pc' := 19) (lv' := [(2, .int (nI k)), (0, .ref mb), (1, .int x)]) (st' := [.ref mb, .int (nI 27), .ref (mb + 1)]) rfl ?_
    refine mw_get X kf_X5_7.fl kc_5 rfl (v := .ref (mb + 1)) (fun H h => ⟨_, h.1, rfl⟩) ?_
    refine mw_steps X 7 (pc' := 31) (lv' := [(2, .int (nI k)), (0, .ref mb), (1, .int x)]) (st' := [.int (((nI 507) + ((nI 5) * (nI k))) + (nI 2)), .ref (mb + 1), .int (nI 27), .ref (mb + 1)]) rfl ?_
    refine mw_iald X (v := nI pl) (507 + 5 * k + 2) (by simp only [nI_add, pk_mul]) rfl (fun H h => ⟨_, _, h.2.1, by omega, by decide, hpp⟩) ?_
    refine mw_steps X 2 (pc' := 34) (lv' := [(2, .int (nI k)), (0, .ref mb), (1, .int x)]) (st' := [.int (nI 1), .int ((nI 27) + (nI pl)), .ref (mb + 1)]) rfl ?_
    refine mw_iast X (I1 := md_I Γ mb (upd W (27 + pl) (nI 1)) ρ) (27 + pl) (by simp only [nI_add, pk_mul]) rfl (fun H h => ⟨md_A1, _, _, h.2.1, by omega, by decide, fun H1 o c => h.stw o c⟩) ?_
    refine mw_steps X 5 (pc' := 43) (lv' := [(2, .int (nI k)), (0, .ref mb), (1, .int x)]) (st' := [.int (nI k), .int (nI 13), .int (nI 5), .int (nI 507), .ref mb]) rfl ?_
    refine mw_cV4v X kd_X5_removeAt kv_X5_removeAt kl_X5_29 (ci := 5) rfl rfl (Nat.le_of_ble_eq_true rfl) ⟨Nat.le_of_ble_eq_true rfl, Nat.le_of_ble_eq_true rfl⟩ ⟨Nat.le_of_ble_eq_true rfl, Nat.le_of_ble_eq_true rfl⟩ (fun _ h => h) (fun H h => ⟨⟨_, h.1⟩, cm_removeAt hmb h (f := 507) (z := 5) (q := 13) (by rw [pk_un (by omega)]; exact hn) (by omega) (by omega) (by omega) (by omega) (by omega)⟩) ?_
    exact mw_vret X rfl rfl (fun H h => ⟨rfl, by rw [show mo_sure W x = mo_rm (upd W (27 + pl) (nI 1)) 507 5 13 k from by exact ml_sure_t hk hf hpp hpl]; exact h⟩)
  · rw [show mo_ix (mo_fa W 0 1 x) (mo_n (W 13)) = -1 from if_neg hf]
    refine mw_steps X 1 (pc' := 9) (lv' := [(2, .int (-1)), (0, .ref mb), (1, .int x)]) (st' := [.int (-1)]) rfl ?_
    refine mw_if_lt X 46 rfl rfl (fun c9 => ?_) (fun c9 => absurd (by decide) c9)
    exact mw_vret X rfl rfl (fun H h => ⟨rfl, by rw [show mo_sure W x = W from by exact ml_sure_f hf]; exact h⟩)
set_option maxHeartbeats 4000000 in
set_option maxRecDepth 20000 in
theorem cm_guest0 {l : Launch} {Γ : mw_C} {mb : Nat} (hmb : Γ.2.2.2 ≤ mb) {W : Nat → Int32} {ρ : md_R} {H : Heap} {p y c : Nat} {x : Int32} (hH : md_I Γ mb W ρ H) (hv : iv (c + 1) W) (hp : p < 5) (hy : y < 32768) (hvx : iv_v 1 0 x) : mw_Cr l Γ mX5_takenByGuest 7 0 0 (md_A mb) [.ref mb, .int (nI p), .int (nI y), .int (nI 0), .int x] H (some (.int (nI (mo_guestWhy W p y)))) (md_I Γ mb (mo_guest W p y 0 x) ρ) := by
  obtain ⟨v, hv100, rfl⟩ := hvx.1 rfl
  refine mw_ofG (P := pX5_takenByGuest) (by decide) (md_As hmb) oX5_takenByGuest (Nat.le_of_ble_eq_true rfl) ?_
  intro pg e0 sg mg below meth cd X hs
  refine mw_pre (I' := md_I Γ mb W ρ) (fun H1 h1 => by rw [h1]; exact hH) ?_
  refine mw_steps X 1 (pc' := 1) (lv' := [(0, .ref mb), (1, .int (nI p)), (2, .int (nI y)), (3, .int (nI 0)), (4, .int (nI v))]) (st' := [.ref mb]) rfl ?_
  refine mw_get X kf_X5_7.fl kc_5 rfl (v := .ref (mb + 1)) (fun H h => ⟨_, h.1, rfl⟩) ?_
  refine mw_steps X 3 (pc' := 8) (lv' := [(0, .ref mb), (1, .int (nI p)), (2, .int (nI y)), (3, .int (nI 0)), (4, .int (nI v))]) (st' := [.int ((nI 22) + (nI p)), .ref (mb + 1)]) rfl ?_
  refine mw_iald X (v := W (22 + p)) (22 + p) (by simp only [nI_add, pk_mul]) rfl (fun H h => ⟨_, _, h.2.1, by omega, by decide, rfl⟩) ?_
  refine mw_if_ge X 14 rfl rfl (fun c9 => ?_) (fun c9 => ?_)
  · refine mw_steps X 3 (pc' := 17) (lv' := [(0, .ref mb), (1, .int (nI p)), (2, .int (nI y)), (3, .int (nI 0)), (4, .int (nI v))]) (st' := [.int (nI y), .int (nI 0), .ref mb]) rfl ?_
    refine mw_cV2r X kd_X5_took kv_X5_took kl_X5_76 (ci := 5) rfl rfl (Nat.le_of_ble_eq_true rfl) ⟨Nat.le_of_ble_eq_true rfl, Nat.le_of_ble_eq_true rfl⟩ ⟨Nat.le_of_ble_eq_true rfl, Nat.le_of_ble_eq_true rfl⟩ (fun _ h => h) (fun H h => ⟨⟨_, h.1⟩, cm_took hmb h (e := 0) (by omega) hy⟩) ?_
    refine mw_if_eq X 25 rfl rfl (fun c20 => ?_) (fun c20 => ?_)
    · refine mw_steps X 3 (pc' := 28) (lv' := [(0, .ref mb), (1, .int (nI p)), (2, .int (nI y)), (3, .int (nI 0)), (4, .int (nI v))]) (st' := [.int (nI y), .int (nI 0), .ref mb]) rfl ?_
      refine mw_cV2v X kd_X5_note kv_X5_note kl_X5_79 (ci := 5) rfl rfl (Nat.le_of_ble_eq_true rfl) ⟨Nat.le_of_ble_eq_true rfl, Nat.le_of_ble_eq_true rfl⟩ ⟨Nat.le_of_ble_eq_true rfl, Nat.le_of_ble_eq_true rfl⟩ (fun _ h => h) (fun H h => ⟨⟨_, h.1⟩, cm_note hmb h (e := 0) (by omega) hy⟩) ?_
      obtain ⟨N, hN⟩ : ∃ N, N = mo_note W 0 y := ⟨_, rfl⟩
      rw [← hN]
      have hiN : iv (c + 1) N := by rw [hN]; exact iv_note hv (by omega)
      refine mw_steps X 1 (pc' := 32) (lv' := [(0, .ref mb), (1, .int (nI p)), (2, .int (nI y)), (3, .int (nI 0)), (4, .int (nI v))]) (st' := [.int (nI 0)]) rfl ?_
      refine mw_tsIn X 0 rfl (by decide) 72 rfl (by decide) rfl rfl ?_
      refine mw_steps X 4 (pc' := 77) (lv' := [(0, .ref mb), (1, .int (nI p)), (2, .int (nI y)), (3, .int (nI 0)), (4, .int (nI v))]) (st' := [.int (nI 1), .int (nI v), .int (nI 0), .ref mb]) rfl ?_
      refine mw_cV3v X kd_X5_word kv_X5_word kl_X5_85 (ci := 5) rfl rfl (Nat.le_of_ble_eq_true rfl) ⟨Nat.le_of_ble_eq_true rfl, Nat.le_of_ble_eq_true rfl⟩ ⟨Nat.le_of_ble_eq_true rfl, Nat.le_of_ble_eq_true rfl⟩ (fun _ h => h) (fun H h => ⟨⟨_, h.1⟩, cm_word hmb h (e := 0) hiN (by omega) hv100⟩) ?_
      refine mw_steps X 2 (pc' := 155) (lv' := [(0, .ref mb), (1, .int (nI p)), (2, .int (nI y)), (3, .int (nI 0)), (4, .int (nI v))]) (st' := [.int (nI 0)]) rfl ?_
      exact mw_iret X rfl rfl (fun H h => ⟨by rw [(ml_guest_0 (k := 0) (x := (nI v)) (Int32.not_lt.mpr c9) (mo_b_z c20)).1], by rw [(ml_guest_0 (k := 0) (x := (nI v)) (Int32.not_lt.mpr c9) (mo_b_z c20)).2, ← hN, show mo_guestBy N p 0 (nI v) = mo_word N 0 v from by rw [ml_gb0, ml_n (by omega)]]; exact h⟩)
    · refine mw_steps X 1 (pc' := 24) (lv' := [(0, .ref mb), (1, .int (nI p)), (2, .int (nI y)), (3, .int (nI 0)), (4, .int (nI v))]) (st' := [.int (nI 3)]) rfl ?_
      exact mw_iret X rfl rfl (fun H h => ⟨by rw [(ml_guest_3 (k := 0) (x := (nI v)) (Int32.not_lt.mpr c9) (mo_b_nz c20)).1], by rw [(ml_guest_3 (k := 0) (x := (nI v)) (Int32.not_lt.mpr c9) (mo_b_nz c20)).2]; exact h⟩)
  · refine mw_steps X 1 (pc' := 13) (lv' := [(0, .ref mb), (1, .int (nI p)), (2, .int (nI y)), (3, .int (nI 0)), (4, .int (nI v))]) (st' := [.int (nI 2)]) rfl ?_
    exact mw_iret X rfl rfl (fun H h => ⟨by rw [(ml_guest_2 (y := y) (k := 0) (x := (nI v)) (Int32.not_le.mp c9)).1], by rw [(ml_guest_2 (y := y) (k := 0) (x := (nI v)) (Int32.not_le.mp c9)).2]; exact h⟩)
set_option maxHeartbeats 4000000 in
set_option maxRecDepth 20000 in
theorem cm_guest1 {l : Launch} {Γ : mw_C} {mb : Nat} (hmb : Γ.2.2.2 ≤ mb) {W : Nat → Int32} {ρ : md_R} {H : Heap} {p y c : Nat} {x : Int32} (hH : md_I Γ mb W ρ H) (hv : iv (c + 1) W) (hp : p < 5) (hy : y < 32768) (hvx : iv_v 1 1 x) : mw_Cr l Γ mX5_takenByGuest 7 0 0 (md_A mb) [.ref mb, .int (nI p), .int (nI y), .int (nI 1), .int x] H (some (.int (nI (mo_guestWhy W p y)))) (md_I Γ mb (mo_guest W p y 1 x) ρ) := by
  refine mw_ofG (P := pX5_takenByGuest) (by decide) (md_As hmb) oX5_takenByGuest (Nat.le_of_ble_eq_true rfl) ?_
  intro pg e0 sg mg below meth cd X hs
  refine mw_pre (I' := md_I Γ mb W ρ) (fun H1 h1 => by rw [h1]; exact hH) ?_
  refine mw_steps X 1 (pc' := 1) (lv' := [(0, .ref mb), (1, .int (nI p)), (2, .int (nI y)), (3, .int (nI 1)), (4, .int x)]) (st' := [.ref mb]) rfl ?_
  refine mw_get X kf_X5_7.fl kc_5 rfl (v := .ref (mb + 1)) (fun H h => ⟨_, h.1, rfl⟩) ?_
  refine mw_steps X 3 (pc' := 8) (lv' := [(0, .ref mb), (1, .int (nI p)), (2, .int (nI y)), (3, .int (nI 1)), (4, .int x)]) (st' := [.int ((nI 22) + (nI p)), .ref (mb + 1)]) rfl ?_
  refine mw_iald X (v := W (22 + p)) (22 + p) (by simp only [nI_add, pk_mul]) rfl (fun H h => ⟨_, _, h.2.1, by omega, by decide, rfl⟩) ?_
  refine mw_if_ge X 14 rfl rfl (fun c9 => ?_) (fun c9 => ?_)
  · refine mw_steps X 3 (pc' := 17) (lv' := [(0, .ref mb), (1, .int (nI p)), (2, .int (nI y)), (3, .int (nI 1)), (4, .int x)]) (st' := [.int (nI y), .int (nI 0), .ref mb]) rfl ?_
    refine mw_cV2r X kd_X5_took kv_X5_took kl_X5_76 (ci := 5) rfl rfl (Nat.le_of_ble_eq_true rfl) ⟨Nat.le_of_ble_eq_true rfl, Nat.le_of_ble_eq_true rfl⟩ ⟨Nat.le_of_ble_eq_true rfl, Nat.le_of_ble_eq_true rfl⟩ (fun _ h => h) (fun H h => ⟨⟨_, h.1⟩, cm_took hmb h (e := 0) (by omega) hy⟩) ?_
    refine mw_if_eq X 25 rfl rfl (fun c20 => ?_) (fun c20 => ?_)
    · refine mw_steps X 3 (pc' := 28) (lv' := [(0, .ref mb), (1, .int (nI p)), (2, .int (nI y)), (3, .int (nI 1)), (4, .int x)]) (st' := [.int (nI y), .int (nI 0), .ref mb]) rfl ?_
      refine mw_cV2v X kd_X5_note kv_X5_note kl_X5_79 (ci := 5) rfl rfl (Nat.le_of_ble_eq_true rfl) ⟨Nat.le_of_ble_eq_true rfl, Nat.le_of_ble_eq_true rfl⟩ ⟨Nat.le_of_ble_eq_true rfl, Nat.le_of_ble_eq_true rfl⟩ (fun _ h => h) (fun H h => ⟨⟨_, h.1⟩, cm_note hmb h (e := 0) (by omega) hy⟩) ?_
      obtain ⟨N, hN⟩ : ∃ N, N = mo_note W 0 y := ⟨_, rfl⟩
      rw [← hN]
      have hiN : iv (c + 1) N := by rw [hN]; exact iv_note hv (by omega)
      refine mw_steps X 1 (pc' := 32) (lv' := [(0, .ref mb), (1, .int (nI p)), (2, .int (nI y)), (3, .int (nI 1)), (4, .int x)]) (st' := [.int (nI 1)]) rfl ?_
      refine mw_tsIn X 1 rfl (by decide) 83 rfl (by decide) rfl rfl ?_
      refine mw_steps X 5 (pc' := 89) (lv' := [(0, .ref mb), (1, .int (nI p)), (2, .int (nI y)), (3, .int (nI 1)), (4, .int x)]) (st' := [.int x, .int (nI 2), .int (nI p), .int (nI 0), .ref mb]) rfl ?_
      refine mw_cV4v X kd_X5_goes kv_X5_goes kl_X5_47 (ci := 5) rfl rfl (Nat.le_of_ble_eq_true rfl) ⟨Nat.le_of_ble_eq_true rfl, Nat.le_of_ble_eq_true rfl⟩ ⟨Nat.le_of_ble_eq_true rfl, Nat.le_of_ble_eq_true rfl⟩ (fun _ h => h) (fun H h => ⟨⟨_, h.1⟩, cm_goes hmb h (e := 0) (k := 2) hiN.1 (by omega) hp (by omega)⟩) ?_
      refine mw_steps X 2 (pc' := 155) (lv' := [(0, .ref mb), (1, .int (nI p)), (2, .int (nI y)), (3, .int (nI 1)), (4, .int x)]) (st' := [.int (nI 0)]) rfl ?_
      exact mw_iret X rfl rfl (fun H h => ⟨by rw [(ml_guest_0 (k := 1) (x := x) (Int32.not_lt.mpr c9) (mo_b_z c20)).1], by rw [(ml_guest_0 (k := 1) (x := x) (Int32.not_lt.mpr c9) (mo_b_z c20)).2, ← hN, show mo_guestBy N p 1 x = mo_goes N 0 p 2 x from by exact ml_gb1]; exact h⟩)
    · refine mw_steps X 1 (pc' := 24) (lv' := [(0, .ref mb), (1, .int (nI p)), (2, .int (nI y)), (3, .int (nI 1)), (4, .int x)]) (st' := [.int (nI 3)]) rfl ?_
      exact mw_iret X rfl rfl (fun H h => ⟨by rw [(ml_guest_3 (k := 1) (x := x) (Int32.not_lt.mpr c9) (mo_b_nz c20)).1], by rw [(ml_guest_3 (k := 1) (x := x) (Int32.not_lt.mpr c9) (mo_b_nz c20)).2]; exact h⟩)
  · refine mw_steps X 1 (pc' := 13) (lv' := [(0, .ref mb), (1, .int (nI p)), (2, .int (nI y)), (3, .int (nI 1)), (4, .int x)]) (st' := [.int (nI 2)]) rfl ?_
    exact mw_iret X rfl rfl (fun H h => ⟨by rw [(ml_guest_2 (y := y) (k := 1) (x := x) (Int32.not_le.mp c9)).1], by rw [(ml_guest_2 (y := y) (k := 1) (x := x) (Int32.not_le.mp c9)).2]; exact h⟩)
set_option maxHeartbeats 4000000 in
set_option maxRecDepth 20000 in
theorem cm_guest2 {l : Launch} {Γ : mw_C} {mb : Nat} (hmb : Γ.2.2.2 ≤ mb) {W : Nat → Int32} {ρ : md_R} {H : Heap} {p y c : Nat} {x : Int32} (hH : md_I Γ mb W ρ H) (hv : iv (c + 1) W) (hp : p < 5) (hy : y < 32768) (hvx : iv_v 1 2 x) : mw_Cr l Γ mX5_takenByGuest 7 0 0 (md_A mb) [.ref mb, .int (nI p), .int (nI y), .int (nI 2), .int x] H (some (.int (nI (mo_guestWhy W p y)))) (md_I Γ mb (mo_guest W p y 2 x) ρ) := by
  refine mw_ofG (P := pX5_takenByGuest) (by decide) (md_As hmb) oX5_takenByGuest (Nat.le_of_ble_eq_true rfl) ?_
  intro pg e0 sg mg below meth cd X hs
  refine mw_pre (I' := md_I Γ mb W ρ) (fun H1 h1 => by rw [h1]; exact hH) ?_
  refine mw_steps X 1 (pc' := 1) (lv' := [(0, .ref mb), (1, .int (nI p)), (2, .int (nI y)), (3, .int (nI 2)), (4, .int x)]) (st' := [.ref mb]) rfl ?_
  refine mw_get X kf_X5_7.fl kc_5 rfl (v := .ref (mb + 1)) (fun H h => ⟨_, h.1, rfl⟩) ?_
  refine mw_steps X 3 (pc' := 8) (lv' := [(0, .ref mb), (1, .int (nI p)), (2, .int (nI y)), (3, .int (nI 2)), (4, .int x)]) (st' := [.int ((nI 22) + (nI p)), .ref (mb + 1)]) rfl ?_
  refine mw_iald X (v := W (22 + p)) (22 + p) (by simp only [nI_add, pk_mul]) rfl (fun H h => ⟨_, _, h.2.1, by omega, by decide, rfl⟩) ?_
  refine mw_if_ge X 14 rfl rfl (fun c9 => ?_) (fun c9 => ?_)
  · refine mw_steps X 3 (pc' := 17) (lv' := [(0, .ref mb), (1, .int (nI p)), (2, .int (nI y)), (3, .int (nI 2)), (4, .int x)]) (st' := [.int (nI y), .int (nI 0), .ref mb]) rfl ?_
    refine mw_cV2r X kd_X5_took kv_X5_took kl_X5_76 (ci := 5) rfl rfl (Nat.le_of_ble_eq_true rfl) ⟨Nat.le_of_ble_eq_true rfl, Nat.le_of_ble_eq_true rfl⟩ ⟨Nat.le_of_ble_eq_true rfl, Nat.le_of_ble_eq_true rfl⟩ (fun _ h => h) (fun H h => ⟨⟨_, h.1⟩, cm_took hmb h (e := 0) (by omega) hy⟩) ?_
    refine mw_if_eq X 25 rfl rfl (fun c20 => ?_) (fun c20 => ?_)
    · refine mw_steps X 3 (pc' := 28) (lv' := [(0, .ref mb), (1, .int (nI p)), (2, .int (nI y)), (3, .int (nI 2)), (4, .int x)]) (st' := [.int (nI y), .int (nI 0), .ref mb]) rfl ?_
      refine mw_cV2v X kd_X5_note kv_X5_note kl_X5_79 (ci := 5) rfl rfl (Nat.le_of_ble_eq_true rfl) ⟨Nat.le_of_ble_eq_true rfl, Nat.le_of_ble_eq_true rfl⟩ ⟨Nat.le_of_ble_eq_true rfl, Nat.le_of_ble_eq_true rfl⟩ (fun _ h => h) (fun H h => ⟨⟨_, h.1⟩, cm_note hmb h (e := 0) (by omega) hy⟩) ?_
      obtain ⟨N, hN⟩ : ∃ N, N = mo_note W 0 y := ⟨_, rfl⟩
      rw [← hN]
      have hiN : iv (c + 1) N := by rw [hN]; exact iv_note hv (by omega)
      refine mw_steps X 1 (pc' := 32) (lv' := [(0, .ref mb), (1, .int (nI p)), (2, .int (nI y)), (3, .int (nI 2)), (4, .int x)]) (st' := [.int (nI 2)]) rfl ?_
      refine mw_tsIn X 2 rfl (by decide) 95 rfl (by decide) rfl rfl ?_
      refine mw_steps X 2 (pc' := 98) (lv' := [(0, .ref mb), (1, .int (nI p)), (2, .int (nI y)), (3, .int (nI 2)), (4, .int x)]) (st' := [.int x, .ref mb]) rfl ?_
      refine mw_cV1v X kd_X5_sureBy kv_X5_sureBy kl_X5_98 (ci := 5) rfl rfl (Nat.le_of_ble_eq_true rfl) ⟨Nat.le_of_ble_eq_true rfl, Nat.le_of_ble_eq_true rfl⟩ ⟨Nat.le_of_ble_eq_true rfl, Nat.le_of_ble_eq_true rfl⟩ (fun _ h => h) (fun H h => ⟨⟨_, h.1⟩, cm_sure hmb h hiN⟩) ?_
      refine mw_steps X 2 (pc' := 155) (lv' := [(0, .ref mb), (1, .int (nI p)), (2, .int (nI y)), (3, .int (nI 2)), (4, .int x)]) (st' := [.int (nI 0)]) rfl ?_
      exact mw_iret X rfl rfl (fun H h => ⟨by rw [(ml_guest_0 (k := 2) (x := x) (Int32.not_lt.mpr c9) (mo_b_z c20)).1], by rw [(ml_guest_0 (k := 2) (x := x) (Int32.not_lt.mpr c9) (mo_b_z c20)).2, ← hN, show mo_guestBy N p 2 x = mo_sure N x from by exact ml_gb2]; exact h⟩)
    · refine mw_steps X 1 (pc' := 24) (lv' := [(0, .ref mb), (1, .int (nI p)), (2, .int (nI y)), (3, .int (nI 2)), (4, .int x)]) (st' := [.int (nI 3)]) rfl ?_
      exact mw_iret X rfl rfl (fun H h => ⟨by rw [(ml_guest_3 (k := 2) (x := x) (Int32.not_lt.mpr c9) (mo_b_nz c20)).1], by rw [(ml_guest_3 (k := 2) (x := x) (Int32.not_lt.mpr c9) (mo_b_nz c20)).2]; exact h⟩)
  · refine mw_steps X 1 (pc' := 13) (lv' := [(0, .ref mb), (1, .int (nI p)), (2, .int (nI y)), (3, .int (nI 2)), (4, .int x)]) (st' := [.int (nI 2)]) rfl ?_
    exact mw_iret X rfl rfl (fun H h => ⟨by rw [(ml_guest_2 (y := y) (k := 2) (x := x) (Int32.not_le.mp c9)).1], by rw [(ml_guest_2 (y := y) (k := 2) (x := x) (Int32.not_le.mp c9)).2]; exact h⟩)
set_option maxHeartbeats 4000000 in
set_option maxRecDepth 20000 in
theorem cm_guest3 {l : Launch} {Γ : mw_C} {mb : Nat} (hmb : Γ.2.2.2 ≤ mb) {W : Nat → Int32} {ρ : md_R} {H : Heap} {p y c : Nat} {x : Int32} (hH : md_I Γ mb W ρ H) (hv : iv (c + 1) W) (hp : p < 5) (hy : y < 32768) (hvx : iv_v 1 3 x) : mw_Cr l Γ mX5_takenByGuest 7 0 0 (md_A mb) [.ref mb, .int (nI p), .int (nI y), .int (nI 3), .int x] H (some (.int (nI (mo_guestWhy W p y)))) (md_I Γ mb (mo_guest W p y 3 x) ρ) := by
  obtain ⟨v, hv40, rfl⟩ := hvx.2.1 rfl rfl
  refine mw_ofG (P := pX5_takenByGuest) (by decide) (md_As hmb) oX5_takenByGuest (Nat.le_of_ble_eq_true rfl) ?_
  intro pg e0 sg mg below meth cd X hs
  refine mw_pre (I' := md_I Γ mb W ρ) (fun H1 h1 => by rw [h1]; exact hH) ?_
  refine mw_steps X 1 (pc' := 1) (lv' := [(0, .ref mb), (1, .int (nI p)), (2, .int (nI y)), (3, .int (nI 3)), (4, .int (nI v))]) (st' := [.ref mb]) rfl ?_
  refine mw_get X kf_X5_7.fl kc_5 rfl (v := .ref (mb + 1)) (fun H h => ⟨_, h.1, rfl⟩) ?_
  refine mw_steps X 3 (pc' := 8) (lv' := [(0, .ref mb), (1, .int (nI p)), (2, .int (nI y)), (3, .int (nI 3)), (4, .int (nI v))]) (st' := [.int ((nI 22) + (nI p)), .ref (mb + 1)]) rfl ?_
  refine mw_iald X (v := W (22 + p)) (22 + p) (by simp only [nI_add, pk_mul]) rfl (fun H h => ⟨_, _, h.2.1, by omega, by decide, rfl⟩) ?_
  refine mw_if_ge X 14 rfl rfl (fun c9 => ?_) (fun c9 => ?_)
  · refine mw_steps X 3 (pc' := 17) (lv' := [(0, .ref mb), (1, .int (nI p)), (2, .int (nI y)), (3, .int (nI 3)), (4, .int (nI v))]) (st' := [.int (nI y), .int (nI 0), .ref mb]) rfl ?_
    refine mw_cV2r X kd_X5_took kv_X5_took kl_X5_76 (ci := 5) rfl rfl (Nat.le_of_ble_eq_true rfl) ⟨Nat.le_of_ble_eq_true rfl, Nat.le_of_ble_eq_true rfl⟩ ⟨Nat.le_of_ble_eq_true rfl, Nat.le_of_ble_eq_true rfl⟩ (fun _ h => h) (fun H h => ⟨⟨_, h.1⟩, cm_took hmb h (e := 0) (by omega) hy⟩) ?_
    refine mw_if_eq X 25 rfl rfl (fun c20 => ?_) (fun c20 => ?_)
    · refine mw_steps X 3 (pc' := 28) (lv' := [(0, .ref mb), (1, .int (nI p)), (2, .int (nI y)), (3, .int (nI 3)), (4, .int (nI v))]) (st' := [.int (nI y), .int (nI 0), .ref mb]) rfl ?_
      refine mw_cV2v X kd_X5_note kv_X5_note kl_X5_79 (ci := 5) rfl rfl (Nat.le_of_ble_eq_true rfl) ⟨Nat.le_of_ble_eq_true rfl, Nat.le_of_ble_eq_true rfl⟩ ⟨Nat.le_of_ble_eq_true rfl, Nat.le_of_ble_eq_true rfl⟩ (fun _ h => h) (fun H h => ⟨⟨_, h.1⟩, cm_note hmb h (e := 0) (by omega) hy⟩) ?_
      obtain ⟨N, hN⟩ : ∃ N, N = mo_note W 0 y := ⟨_, rfl⟩
      rw [← hN]
      have hiN : iv (c + 1) N := by rw [hN]; exact iv_note hv (by omega)
      refine mw_steps X 1 (pc' := 32) (lv' := [(0, .ref mb), (1, .int (nI p)), (2, .int (nI y)), (3, .int (nI 3)), (4, .int (nI v))]) (st' := [.int (nI 3)]) rfl ?_
      refine mw_tsIn X 3 rfl (by decide) 104 rfl (by decide) rfl rfl ?_
      refine mw_steps X 1 (pc' := 105) (lv' := [(0, .ref mb), (1, .int (nI p)), (2, .int (nI y)), (3, .int (nI 3)), (4, .int (nI v))]) (st' := [.ref mb]) rfl ?_
      refine mw_get X kf_X5_7.fl kc_5 rfl (v := .ref (mb + 1)) (fun H h => ⟨_, h.1, rfl⟩) ?_
      refine mw_steps X 4 (pc' := 114) (lv' := [(0, .ref mb), (1, .int (nI p)), (2, .int (nI y)), (3, .int (nI 3)), (4, .int (nI v))]) (st' := [.ref mb, .int ((nI 87) + (nI v)), .ref (mb + 1)]) rfl ?_
      refine mw_get X kf_X5_7.fl kc_5 rfl (v := .ref (mb + 1)) (fun H h => ⟨_, h.1, rfl⟩) ?_
      refine mw_steps X 3 (pc' := 122) (lv' := [(0, .ref mb), (1, .int (nI p)), (2, .int (nI y)), (3, .int (nI 3)), (4, .int (nI v))]) (st' := [.int ((nI 87) + (nI v)), .ref (mb + 1), .int ((nI 87) + (nI v)), .ref (mb + 1)]) rfl ?_
      refine mw_iald X (v := N (87 + v)) (87 + v) (by simp only [nI_add, pk_mul]) rfl (fun H h => ⟨_, _, h.2.1, by omega, by decide, rfl⟩) ?_
      refine mw_if_ne X 130 rfl rfl (fun c123 => ?_) (fun c123 => ?_)
      · refine mw_steps X 1 (pc' := 131) (lv' := [(0, .ref mb), (1, .int (nI p)), (2, .int (nI y)), (3, .int (nI 3)), (4, .int (nI v))]) (st' := [.ref mb, .int ((nI 87) + (nI v)), .ref (mb + 1)]) rfl ?_
        refine mw_get X kf_X5_7.fl kc_5 rfl (v := .ref (mb + 1)) (fun H h => ⟨_, h.1, rfl⟩) ?_
        refine mw_steps X 3 (pc' := 139) (lv' := [(0, .ref mb), (1, .int (nI p)), (2, .int (nI y)), (3, .int (nI 3)), (4, .int (nI v))]) (st' := [.int ((nI 87) + (nI v)), .ref (mb + 1), .int ((nI 87) + (nI v)), .ref (mb + 1)]) rfl ?_
        refine mw_iald X (v := N (87 + v)) (87 + v) (by simp only [nI_add, pk_mul]) rfl (fun H h => ⟨_, _, h.2.1, by omega, by decide, rfl⟩) ?_
        refine mw_iast X (I1 := md_I Γ mb (upd N (87 + v) (N (87 + v))) ρ) (87 + v) (by simp only [nI_add, pk_mul]) rfl (fun H h => ⟨md_A1, _, _, h.2.1, by omega, by decide, fun H1 o c => h.stw o c⟩) ?_
        refine mw_steps X 2 (pc' := 155) (lv' := [(0, .ref mb), (1, .int (nI p)), (2, .int (nI y)), (3, .int (nI 3)), (4, .int (nI v))]) (st' := [.int (nI 0)]) rfl ?_
        exact mw_iret X rfl rfl (fun H h => ⟨by rw [(ml_guest_0 (k := 3) (x := (nI v)) (Int32.not_lt.mpr c9) (mo_b_z c20)).1], by rw [(ml_guest_0 (k := 3) (x := (nI v)) (Int32.not_lt.mpr c9) (mo_b_z c20)).2, ← hN, show mo_guestBy N p 3 (nI v) = upd N (87 + v) (N (87 + v)) from by rw [ml_gb3, ml_n (by omega)]; first | rw [if_pos c123] | rw [if_neg c123]]; exact h⟩)
      · refine mw_steps X 2 (pc' := 140) (lv' := [(0, .ref mb), (1, .int (nI p)), (2, .int (nI y)), (3, .int (nI 3)), (4, .int (nI v))]) (st' := [.int (nI 1), .int ((nI 87) + (nI v)), .ref (mb + 1)]) rfl ?_
        refine mw_iast X (I1 := md_I Γ mb (upd N (87 + v) (nI 1)) ρ) (87 + v) (by simp only [nI_add, pk_mul]) rfl (fun H h => ⟨md_A1, _, _, h.2.1, by omega, by decide, fun H1 o c => h.stw o c⟩) ?_
        refine mw_steps X 2 (pc' := 155) (lv' := [(0, .ref mb), (1, .int (nI p)), (2, .int (nI y)), (3, .int (nI 3)), (4, .int (nI v))]) (st' := [.int (nI 0)]) rfl ?_
        exact mw_iret X rfl rfl (fun H h => ⟨by rw [(ml_guest_0 (k := 3) (x := (nI v)) (Int32.not_lt.mpr c9) (mo_b_z c20)).1], by rw [(ml_guest_0 (k := 3) (x := (nI v)) (Int32.not_lt.mpr c9) (mo_b_z c20)).2, ← hN, show mo_guestBy N p 3 (nI v) = upd N (87 + v) (nI 1) from by rw [ml_gb3, ml_n (by omega)]; first | rw [if_pos c123] | rw [if_neg c123]]; exact h⟩)
    · refine mw_steps X 1 (pc' := 24) (lv' := [(0, .ref mb), (1, .int (nI p)), (2, .int (nI y)), (3, .int (nI 3)), (4, .int (nI v))]) (st' := [.int (nI 3)]) rfl ?_
      exact mw_iret X rfl rfl (fun H h => ⟨by rw [(ml_guest_3 (k := 3) (x := (nI v)) (Int32.not_lt.mpr c9) (mo_b_nz c20)).1], by rw [(ml_guest_3 (k := 3) (x := (nI v)) (Int32.not_lt.mpr c9) (mo_b_nz c20)).2]; exact h⟩)
  · refine mw_steps X 1 (pc' := 13) (lv' := [(0, .ref mb), (1, .int (nI p)), (2, .int (nI y)), (3, .int (nI 3)), (4, .int (nI v))]) (st' := [.int (nI 2)]) rfl ?_
    exact mw_iret X rfl rfl (fun H h => ⟨by rw [(ml_guest_2 (y := y) (k := 3) (x := (nI v)) (Int32.not_le.mp c9)).1], by rw [(ml_guest_2 (y := y) (k := 3) (x := (nI v)) (Int32.not_le.mp c9)).2]; exact h⟩)
set_option maxHeartbeats 4000000 in
set_option maxRecDepth 20000 in
theorem cm_guest4 {l : Launch} {Γ : mw_C} {mb : Nat} (hmb : Γ.2.2.2 ≤ mb) {W : Nat → Int32} {ρ : md_R} {H : Heap} {p y c : Nat} {x : Int32} (hH : md_I Γ mb W ρ H) (hv : iv (c + 1) W) (hp : p < 5) (hy : y < 32768) (hvx : iv_v 1 4 x) : mw_Cr l Γ mX5_takenByGuest 7 0 0 (md_A mb) [.ref mb, .int (nI p), .int (nI y), .int (nI 4), .int x] H (some (.int (nI (mo_guestWhy W p y)))) (md_I Γ mb (mo_guest W p y 4 x) ρ) := by
  refine mw_ofG (P := pX5_takenByGuest) (by decide) (md_As hmb) oX5_takenByGuest (Nat.le_of_ble_eq_true rfl) ?_
  intro pg e0 sg mg below meth cd X hs
  refine mw_pre (I' := md_I Γ mb W ρ) (fun H1 h1 => by rw [h1]; exact hH) ?_
  refine mw_steps X 1 (pc' := 1) (lv' := [(0, .ref mb), (1, .int (nI p)), (2, .int (nI y)), (3, .int (nI 4)), (4, .int x)]) (st' := [.ref mb]) rfl ?_
  refine mw_get X kf_X5_7.fl kc_5 rfl (v := .ref (mb + 1)) (fun H h => ⟨_, h.1, rfl⟩) ?_
  refine mw_steps X 3 (pc' := 8) (lv' := [(0, .ref mb), (1, .int (nI p)), (2, .int (nI y)), (3, .int (nI 4)), (4, .int x)]) (st' := [.int ((nI 22) + (nI p)), .ref (mb + 1)]) rfl ?_
  refine mw_iald X (v := W (22 + p)) (22 + p) (by simp only [nI_add, pk_mul]) rfl (fun H h => ⟨_, _, h.2.1, by omega, by decide, rfl⟩) ?_
  refine mw_if_ge X 14 rfl rfl (fun c9 => ?_) (fun c9 => ?_)
  · refine mw_steps X 3 (pc' := 17) (lv' := [(0, .ref mb), (1, .int (nI p)), (2, .int (nI y)), (3, .int (nI 4)), (4, .int x)]) (st' := [.int (nI y), .int (nI 0), .ref mb]) rfl ?_
    refine mw_cV2r X kd_X5_took kv_X5_took kl_X5_76 (ci := 5) rfl rfl (Nat.le_of_ble_eq_true rfl) ⟨Nat.le_of_ble_eq_true rfl, Nat.le_of_ble_eq_true rfl⟩ ⟨Nat.le_of_ble_eq_true rfl, Nat.le_of_ble_eq_true rfl⟩ (fun _ h => h) (fun H h => ⟨⟨_, h.1⟩, cm_took hmb h (e := 0) (by omega) hy⟩) ?_
    refine mw_if_eq X 25 rfl rfl (fun c20 => ?_) (fun c20 => ?_)
    · refine mw_steps X 3 (pc' := 28) (lv' := [(0, .ref mb), (1, .int (nI p)), (2, .int (nI y)), (3, .int (nI 4)), (4, .int x)]) (st' := [.int (nI y), .int (nI 0), .ref mb]) rfl ?_
      refine mw_cV2v X kd_X5_note kv_X5_note kl_X5_79 (ci := 5) rfl rfl (Nat.le_of_ble_eq_true rfl) ⟨Nat.le_of_ble_eq_true rfl, Nat.le_of_ble_eq_true rfl⟩ ⟨Nat.le_of_ble_eq_true rfl, Nat.le_of_ble_eq_true rfl⟩ (fun _ h => h) (fun H h => ⟨⟨_, h.1⟩, cm_note hmb h (e := 0) (by omega) hy⟩) ?_
      obtain ⟨N, hN⟩ : ∃ N, N = mo_note W 0 y := ⟨_, rfl⟩
      rw [← hN]
      have hiN : iv (c + 1) N := by rw [hN]; exact iv_note hv (by omega)
      refine mw_steps X 1 (pc' := 32) (lv' := [(0, .ref mb), (1, .int (nI p)), (2, .int (nI y)), (3, .int (nI 4)), (4, .int x)]) (st' := [.int (nI 4)]) rfl ?_
      refine mw_tsIn X 4 rfl (by decide) 154 rfl (by decide) rfl rfl ?_
      refine mw_steps X 1 (pc' := 155) (lv' := [(0, .ref mb), (1, .int (nI p)), (2, .int (nI y)), (3, .int (nI 4)), (4, .int x)]) (st' := [.int (nI 0)]) rfl ?_
      exact mw_iret X rfl rfl (fun H h => ⟨by rw [(ml_guest_0 (k := 4) (x := x) (Int32.not_lt.mpr c9) (mo_b_z c20)).1], by rw [(ml_guest_0 (k := 4) (x := x) (Int32.not_lt.mpr c9) (mo_b_z c20)).2, ← hN, show mo_guestBy N p 4 x = N from by exact ml_gb4]; exact h⟩)
    · refine mw_steps X 1 (pc' := 24) (lv' := [(0, .ref mb), (1, .int (nI p)), (2, .int (nI y)), (3, .int (nI 4)), (4, .int x)]) (st' := [.int (nI 3)]) rfl ?_
      exact mw_iret X rfl rfl (fun H h => ⟨by rw [(ml_guest_3 (k := 4) (x := x) (Int32.not_lt.mpr c9) (mo_b_nz c20)).1], by rw [(ml_guest_3 (k := 4) (x := x) (Int32.not_lt.mpr c9) (mo_b_nz c20)).2]; exact h⟩)
  · refine mw_steps X 1 (pc' := 13) (lv' := [(0, .ref mb), (1, .int (nI p)), (2, .int (nI y)), (3, .int (nI 4)), (4, .int x)]) (st' := [.int (nI 2)]) rfl ?_
    exact mw_iret X rfl rfl (fun H h => ⟨by rw [(ml_guest_2 (y := y) (k := 4) (x := x) (Int32.not_le.mp c9)).1], by rw [(ml_guest_2 (y := y) (k := 4) (x := x) (Int32.not_le.mp c9)).2]; exact h⟩)
set_option maxHeartbeats 4000000 in
set_option maxRecDepth 20000 in
theorem cm_guest5 {l : Launch} {Γ : mw_C} {mb : Nat} (hmb : Γ.2.2.2 ≤ mb) {W : Nat → Int32} {ρ : md_R} {H : Heap} {p y c : Nat} {x : Int32} (hH : md_I Γ mb W ρ H) (hv : iv (c + 1) W) (hp : p < 5) (hy : y < 32768) (hvx : iv_v 1 5 x) : mw_Cr l Γ mX5_takenByGuest 7 0 0 (md_A mb) [.ref mb, .int (nI p), .int (nI y), .int (nI 5), .int x] H (some (.int (nI (mo_guestWhy W p y)))) (md_I Γ mb (mo_guest W p y 5 x) ρ) := by
  refine mw_ofG (P := pX5_takenByGuest) (by decide) (md_As hmb) oX5_takenByGuest (Nat.le_of_ble_eq_true rfl) ?_
  intro pg e0 sg mg below meth cd X hs
  refine mw_pre (I' := md_I Γ mb W ρ) (fun H1 h1 => by rw [h1]; exact hH) ?_
  refine mw_steps X 1 (pc' := 1) (lv' := [(0, .ref mb), (1, .int (nI p)), (2, .int (nI y)), (3, .int (nI 5)), (4, .int x)]) (st' := [.ref mb]) rfl ?_
  refine mw_get X kf_X5_7.fl kc_5 rfl (v := .ref (mb + 1)) (fun H h => ⟨_, h.1, rfl⟩) ?_
  refine mw_steps X 3 (pc' := 8) (lv' := [(0, .ref mb), (1, .int (nI p)), (2, .int (nI y)), (3, .int (nI 5)), (4, .int x)]) (st' := [.int ((nI 22) + (nI p)), .ref (mb + 1)]) rfl ?_
  refine mw_iald X (v := W (22 + p)) (22 + p) (by simp only [nI_add, pk_mul]) rfl (fun H h => ⟨_, _, h.2.1, by omega, by decide, rfl⟩) ?_
  refine mw_if_ge X 14 rfl rfl (fun c9 => ?_) (fun c9 => ?_)
  · refine mw_steps X 3 (pc' := 17) (lv' := [(0, .ref mb), (1, .int (nI p)), (2, .int (nI y)), (3, .int (nI 5)), (4, .int x)]) (st' := [.int (nI y), .int (nI 0), .ref mb]) rfl ?_
    refine mw_cV2r X kd_X5_took kv_X5_took kl_X5_76 (ci := 5) rfl rfl (Nat.le_of_ble_eq_true rfl) ⟨Nat.le_of_ble_eq_true rfl, Nat.le_of_ble_eq_true rfl⟩ ⟨Nat.le_of_ble_eq_true rfl, Nat.le_of_ble_eq_true rfl⟩ (fun _ h => h) (fun H h => ⟨⟨_, h.1⟩, cm_took hmb h (e := 0) (by omega) hy⟩) ?_
    refine mw_if_eq X 25 rfl rfl (fun c20 => ?_) (fun c20 => ?_)
    · refine mw_steps X 3 (pc' := 28) (lv' := [(0, .ref mb), (1, .int (nI p)), (2, .int (nI y)), (3, .int (nI 5)), (4, .int x)]) (st' := [.int (nI y), .int (nI 0), .ref mb]) rfl ?_
      refine mw_cV2v X kd_X5_note kv_X5_note kl_X5_79 (ci := 5) rfl rfl (Nat.le_of_ble_eq_true rfl) ⟨Nat.le_of_ble_eq_true rfl, Nat.le_of_ble_eq_true rfl⟩ ⟨Nat.le_of_ble_eq_true rfl, Nat.le_of_ble_eq_true rfl⟩ (fun _ h => h) (fun H h => ⟨⟨_, h.1⟩, cm_note hmb h (e := 0) (by omega) hy⟩) ?_
      obtain ⟨N, hN⟩ : ∃ N, N = mo_note W 0 y := ⟨_, rfl⟩
      rw [← hN]
      have hiN : iv (c + 1) N := by rw [hN]; exact iv_note hv (by omega)
      refine mw_steps X 1 (pc' := 32) (lv' := [(0, .ref mb), (1, .int (nI p)), (2, .int (nI y)), (3, .int (nI 5)), (4, .int x)]) (st' := [.int (nI 5)]) rfl ?_
      refine mw_tsIn X 5 rfl (by decide) 144 rfl (by decide) rfl rfl ?_
      refine mw_steps X 3 (pc' := 148) (lv' := [(0, .ref mb), (1, .int (nI p)), (2, .int (nI y)), (3, .int (nI 5)), (4, .int x)]) (st' := [.int x, .int (nI 0), .ref mb]) rfl ?_
      refine mw_cV2v X kd_X5_confirm kv_X5_confirm kl_X5_95 (ci := 5) rfl rfl (Nat.le_of_ble_eq_true rfl) ⟨Nat.le_of_ble_eq_true rfl, Nat.le_of_ble_eq_true rfl⟩ ⟨Nat.le_of_ble_eq_true rfl, Nat.le_of_ble_eq_true rfl⟩ (fun _ h => h) (fun H h => ⟨⟨_, h.1⟩, cm_confirm hmb h (e := 0) (by omega)⟩) ?_
      refine mw_steps X 2 (pc' := 155) (lv' := [(0, .ref mb), (1, .int (nI p)), (2, .int (nI y)), (3, .int (nI 5)), (4, .int x)]) (st' := [.int (nI 0)]) rfl ?_
      exact mw_iret X rfl rfl (fun H h => ⟨by rw [(ml_guest_0 (k := 5) (x := x) (Int32.not_lt.mpr c9) (mo_b_z c20)).1], by rw [(ml_guest_0 (k := 5) (x := x) (Int32.not_lt.mpr c9) (mo_b_z c20)).2, ← hN, show mo_guestBy N p 5 x = mo_confirm N 0 x from by exact ml_gb5]; exact h⟩)
    · refine mw_steps X 1 (pc' := 24) (lv' := [(0, .ref mb), (1, .int (nI p)), (2, .int (nI y)), (3, .int (nI 5)), (4, .int x)]) (st' := [.int (nI 3)]) rfl ?_
      exact mw_iret X rfl rfl (fun H h => ⟨by rw [(ml_guest_3 (k := 5) (x := x) (Int32.not_lt.mpr c9) (mo_b_nz c20)).1], by rw [(ml_guest_3 (k := 5) (x := x) (Int32.not_lt.mpr c9) (mo_b_nz c20)).2]; exact h⟩)
  · refine mw_steps X 1 (pc' := 13) (lv' := [(0, .ref mb), (1, .int (nI p)), (2, .int (nI y)), (3, .int (nI 5)), (4, .int x)]) (st' := [.int (nI 2)]) rfl ?_
    exact mw_iret X rfl rfl (fun H h => ⟨by rw [(ml_guest_2 (y := y) (k := 5) (x := x) (Int32.not_le.mp c9)).1], by rw [(ml_guest_2 (y := y) (k := 5) (x := x) (Int32.not_le.mp c9)).2]; exact h⟩)
theorem cm_guest {l : Launch} {Γ : mw_C} {mb : Nat} (hmb : Γ.2.2.2 ≤ mb) {W : Nat → Int32} {ρ : md_R} {H : Heap} {p y k c : Nat} {x : Int32} (hH : md_I Γ mb W ρ H) (hv : iv (c + 1) W) (hp : p < 5) (hy : y < 32768) (hk : k < 6) (hvx : iv_v 1 k x) : mw_Cr l Γ mX5_takenByGuest 7 0 0 (md_A mb) [.ref mb, .int (nI p), .int (nI y), .int (nI k), .int x] H (some (.int (nI (mo_guestWhy W p y)))) (md_I Γ mb (mo_guest W p y k x) ρ) := by
  rcases (show k = 0 ∨ k = 1 ∨ k = 2 ∨ k = 3 ∨ k = 4 ∨ k = 5 by omega) with rfl | rfl | rfl | rfl | rfl | rfl
  · exact cm_guest0 hmb hH hv hp hy hvx
  · exact cm_guest1 hmb hH hv hp hy hvx
  · exact cm_guest2 hmb hH hv hp hy hvx
  · exact cm_guest3 hmb hH hv hp hy hvx
  · exact cm_guest4 hmb hH hv hp hy hvx
  · exact cm_guest5 hmb hH hv hp hy hvx
set_option maxHeartbeats 4000000 in
set_option maxRecDepth 20000 in
theorem cm_goTo {l : Launch} {Γ : mw_C} {mb : Nat} (hmb : Γ.2.2.2 ≤ mb) {W : Nat → Int32} {ρ : md_R} {H : Heap} {p c : Nat} (hH : md_I Γ mb W ρ H) (hv : iv c W) (hp : p < 5) : mw_Cr l Γ mX5_goTo 5 0 0 (md_A mb) [.ref mb, .int (nI p)] H none (md_I Γ mb (mo_goTo W p) ρ) := by
  refine mw_ofG (P := pX5_goTo) (by decide) (md_As hmb) oX5_goTo (Nat.le_of_ble_eq_true rfl) ?_
  intro pg e0 sg mg below meth cd X hs
  refine mw_pre (I' := md_I Γ mb W ρ) (fun H1 h1 => by rw [h1]; exact hH) ?_
  refine mw_steps X 1 (pc' := 1) (lv' := [(0, .ref mb), (1, .int (nI p))]) (st' := [.ref mb]) rfl ?_
  refine mw_get X kf_X5_7.fl kc_5 rfl (v := .ref (mb + 1)) (fun H h => ⟨_, h.1, rfl⟩) ?_
  refine mw_steps X 2 (pc' := 6) (lv' := [(0, .ref mb), (1, .int (nI p))]) (st' := [.ref mb, .int (nI 4), .ref (mb + 1)]) rfl ?_
  refine mw_get X kf_X5_7.fl kc_5 rfl (v := .ref (mb + 1)) (fun H h => ⟨_, h.1, rfl⟩) ?_
  refine mw_steps X 1 (pc' := 10) (lv' := [(0, .ref mb), (1, .int (nI p))]) (st' := [.int (nI 2), .ref (mb + 1), .int (nI 4), .ref (mb + 1)]) rfl ?_
  refine mw_iald X (v := W (2)) (2) rfl rfl (fun H h => ⟨_, _, h.2.1, by omega, by decide, rfl⟩) ?_
  refine mw_iast X (I1 := md_I Γ mb (upd W (4) (W (2))) ρ) (4) rfl rfl (fun H h => ⟨md_A1, _, _, h.2.1, by omega, by decide, fun H1 o c => h.stw o c⟩) ?_
  refine mw_steps X 1 (pc' := 13) (lv' := [(0, .ref mb), (1, .int (nI p))]) (st' := [.ref mb]) rfl ?_
  refine mw_get X kf_X5_7.fl kc_5 rfl (v := .ref (mb + 1)) (fun H h => ⟨_, h.1, rfl⟩) ?_
  refine mw_steps X 2 (pc' := 18) (lv' := [(0, .ref mb), (1, .int (nI p))]) (st' := [.int (nI p), .int (nI 2), .ref (mb + 1)]) rfl ?_
  refine mw_iast X (I1 := md_I Γ mb (upd (upd W (4) (W (2))) (2) (nI p)) ρ) (2) rfl rfl (fun H h => ⟨md_A1, _, _, h.2.1, by omega, by decide, fun H1 o c => h.stw o c⟩) ?_
  refine mw_steps X 4 (pc' := 23) (lv' := [(0, .ref mb), (1, .int (nI p))]) (st' := [.int (nI 0), .int (nI 0), .int (nI 0), .ref mb]) rfl ?_
  refine mw_cV3v X kd_X5_word kv_X5_word kl_X5_85 (ci := 5) rfl rfl (Nat.le_of_ble_eq_true rfl) ⟨Nat.le_of_ble_eq_true rfl, Nat.le_of_ble_eq_true rfl⟩ ⟨Nat.le_of_ble_eq_true rfl, Nat.le_of_ble_eq_true rfl⟩ (fun _ h => h) (fun H h => ⟨⟨_, h.1⟩, cm_heard hmb h (e := 0) (iv_goMid hv hp) (by omega)⟩) ?_
  exact mw_vret X rfl rfl (fun H h => ⟨rfl, by rw [show mo_goTo W p = mo_heard (upd (upd W (4) (W (2))) (2) (nI p)) 0 from by rfl]; exact h⟩)
set_option maxHeartbeats 4000000 in
set_option maxRecDepth 20000 in
theorem cm_close {l : Launch} {Γ : mw_C} {mb : Nat} (hmb : Γ.2.2.2 ≤ mb) {W : Nat → Int32} {ρ : md_R} {H : Heap} {p c : Nat} (hH : md_I Γ mb W ρ H) (hv : iv c W) (hp : p < 5) : mw_Cr l Γ mX5_closeNow 3 0 0 (md_A mb) [.ref mb, .int (nI p)] H none (md_I Γ mb (mo_close W p) ρ) := by
  obtain ⟨cu, hcu5, hcu⟩ := ml_c2 hv
  have hio := (iv_open hv hp (Or.inl rfl)).1
  refine mw_ofG (P := pX5_closeNow) (by decide) (md_As hmb) oX5_closeNow (Nat.le_of_ble_eq_true rfl) ?_
  intro pg e0 sg mg below meth cd X hs
  refine mw_pre (I' := md_I Γ mb W ρ) (fun H1 h1 => by rw [h1]; exact hH) ?_
  refine mw_steps X 1 (pc' := 1) (lv' := [(0, .ref mb), (1, .int (nI p))]) (st' := [.ref mb]) rfl ?_
  refine mw_get X kf_X5_7.fl kc_5 rfl (v := .ref (mb + 1)) (fun H h => ⟨_, h.1, rfl⟩) ?_
  refine mw_steps X 3 (pc' := 8) (lv' := [(0, .ref mb), (1, .int (nI p))]) (st' := [.int ((nI 22) + (nI p)), .ref (mb + 1)]) rfl ?_
  refine mw_iald X (v := W (22 + p)) (22 + p) (by simp only [nI_add, pk_mul]) rfl (fun H h => ⟨_, _, h.2.1, by omega, by decide, rfl⟩) ?_
  refine mw_steps X 2 (pc' := 11) (lv' := [(2, .int (W (22 + p))), (0, .ref mb), (1, .int (nI p))]) (st' := [.ref mb]) rfl ?_
  refine mw_get X kf_X5_7.fl kc_5 rfl (v := .ref (mb + 1)) (fun H h => ⟨_, h.1, rfl⟩) ?_
  refine mw_steps X 4 (pc' := 19) (lv' := [(2, .int (W (22 + p))), (0, .ref mb), (1, .int (nI p))]) (st' := [.int (-1), .int ((nI 22) + (nI p)), .ref (mb + 1)]) rfl ?_
  refine mw_iast X (I1 := md_I Γ mb (upd W (22 + p) (-1)) ρ) (22 + p) (by simp only [nI_add, pk_mul]) rfl (fun H h => ⟨md_A1, _, _, h.2.1, by omega, by decide, fun H1 o c => h.stw o c⟩) ?_
  refine mw_steps X 3 (pc' := 23) (lv' := [(2, .int (W (22 + p))), (0, .ref mb), (1, .int (nI p))]) (st' := [.ref mb, .int (nI 0), .ref mb]) rfl ?_
  refine mw_get X kf_X5_7.fl kc_5 rfl (v := .ref (mb + 1)) (fun H h => ⟨_, h.1, rfl⟩) ?_
  refine mw_steps X 1 (pc' := 27) (lv' := [(2, .int (W (22 + p))), (0, .ref mb), (1, .int (nI p))]) (st' := [.int (nI 2), .ref (mb + 1), .int (nI 0), .ref mb]) rfl ?_
  refine mw_iald X (v := nI cu) (2) rfl rfl (fun H h => ⟨_, _, h.2.1, by omega, by decide, (by simp (disch := omega) only [pk_un]; exact hcu)⟩) ?_
  refine mw_steps X 2 (pc' := 30) (lv' := [(2, .int (W (22 + p))), (0, .ref mb), (1, .int (nI p))]) (st' := [.int (W (22 + p)), .int (nI 4), .int (nI cu), .int (nI 0), .ref mb]) rfl ?_
  refine mw_cV4v X kd_X5_send kv_X5_send kl_X5_37 (ci := 5) rfl rfl (Nat.le_of_ble_eq_true rfl) ⟨Nat.le_of_ble_eq_true rfl, Nat.le_of_ble_eq_true rfl⟩ ⟨Nat.le_of_ble_eq_true rfl, Nat.le_of_ble_eq_true rfl⟩ (fun _ h => h) (fun H h => ⟨⟨_, h.1⟩, cm_send0 hmb h hcu5 (by omega) (ml_i11 hio) (ml_n24 hio)⟩) ?_
  exact mw_vret X rfl rfl (fun H h => ⟨rfl, by rw [show mo_close W p = mo_send (upd W (22 + p) (-1)) 0 cu 4 (W (22 + p)) from by unfold mo_close; rw [hcu, ml_n (by omega)]]; exact h⟩)
set_option maxHeartbeats 4000000 in
set_option maxRecDepth 20000 in
theorem cm_least {l : Launch} {Γ : mw_C} {mb : Nat} (hmb : Γ.2.2.2 ≤ mb) {W : Nat → Int32} {ρ : md_R} {H : Heap}  (hH : md_I Γ mb W ρ H)  : mw_Cr l Γ mX5_leastSpare 1 0 0 (md_A mb) [.ref mb] H (some (.int (mo_ix (mo_least W) 40))) (md_I Γ mb W ρ) := by
  refine mw_ofG (P := pX5_leastSpare) (by decide) (md_As hmb) oX5_leastSpare (Nat.le_of_ble_eq_true rfl) ?_
  intro pg e0 sg mg below meth cd X hs
  refine mw_pre (I' := md_I Γ mb W ρ) (fun H1 h1 => by rw [h1]; exact hH) ?_
  refine mw_steps X 2 (pc' := 2) (lv' := [(1, .int (nI 0)), (0, .ref mb)]) (st' := []) rfl ?_
  refine mw_wf (fun t => 40 - t) (fun t => t ≤ 40 ∧ ∀ j, j < t → ¬ W (87 + j) = nI 1) (fun _ => md_I Γ mb W ρ) (fun t => [(1, .int (nI t)), (0, .ref mb)]) (fun t ht ih => ?_) 0 ⟨Nat.zero_le _, fun j hj => absurd hj (Nat.not_lt_zero j)⟩
  obtain ⟨ht, hno⟩ := ht
  refine mw_steps X 2 (pc' := 5) (lv' := [(1, .int (nI t)), (0, .ref mb)]) (st' := [.int (nI 40), .int (nI t)]) rfl ?_
  refine mw_icmp_ge X 29 rfl rfl (fun c5 => ?_) (fun c5 => ?_)
  · have htn : t = 40 := by rw [nI_leI (by omega) (by omega)] at c5; omega
    refine mw_steps X 1 (pc' := 30) (lv' := [(1, .int (nI t)), (0, .ref mb)]) (st' := [.int (-1)]) rfl ?_
    exact mw_iret X rfl rfl (fun H h => ⟨congrArg (fun z => some (Value.int z)) (by subst htn; unfold mo_ix; rw [ml_least_none hno, if_neg (by omega)]), h⟩)
  · have htn : t < 40 := by rw [nI_leI (by omega) (by omega)] at c5; omega
    refine mw_steps X 1 (pc' := 9) (lv' := [(1, .int (nI t)), (0, .ref mb)]) (st' := [.ref mb]) rfl ?_
    refine mw_get X kf_X5_7.fl kc_5 rfl (v := .ref (mb + 1)) (fun H h => ⟨_, h.1, rfl⟩) ?_
    refine mw_steps X 3 (pc' := 16) (lv' := [(1, .int (nI t)), (0, .ref mb)]) (st' := [.int ((nI 87) + (nI t)), .ref (mb + 1)]) rfl ?_
    refine mw_iald X (v := W (87 + t)) (87 + t) (by simp only [nI_add, pk_mul]) rfl (fun H h => ⟨_, _, h.2.1, by omega, by decide, rfl⟩) ?_
    refine mw_steps X 1 (pc' := 18) (lv' := [(1, .int (nI t)), (0, .ref mb)]) (st' := [.int (nI 1), .int (W (87 + t))]) rfl ?_
    refine mw_icmp_ne X 23 rfl rfl (fun c18 => ?_) (fun c18 => ?_)
    · refine mw_steps X 2 (pc' := 2) (lv' := [(1, .int ((nI t) + (nI 1))), (0, .ref mb)]) (st' := []) rfl ?_
      refine mw_lveq (lv' := [(1, .int (nI (t + 1))), (0, .ref mb)]) (by simp only [nI_add]) ?_
      exact ih (t + 1) ⟨by omega, ml_succ hno c18⟩ (by omega)
    · refine mw_steps X 1 (pc' := 22) (lv' := [(1, .int (nI t)), (0, .ref mb)]) (st' := [.int (nI t)]) rfl ?_
      exact mw_iret X rfl rfl (fun H h => ⟨congrArg (fun z => some (Value.int z)) (by unfold mo_ix; rw [ml_least_is htn c18 hno, if_pos htn]), h⟩)
set_option maxHeartbeats 4000000 in
set_option maxRecDepth 20000 in
theorem cm_forget {l : Launch} {Γ : mw_C} {mb : Nat} (hmb : Γ.2.2.2 ≤ mb) {W : Nat → Int32} {ρ : md_R} {H : Heap} {p c : Nat} (hH : md_I Γ mb W ρ H) (hv : iv c W) (hp : p < 5) : mw_Cr l Γ mX5_forget 2 0 0 (md_A mb) [.ref mb, .int (nI p)] H none (md_I Γ mb (mo_forget W p) ρ) := by
  have hi0 : iv c (upd (upd W (37 + p) (nI 0)) (42 + p) (nI 0)) := hv.free (fun j a => by rw [pk_un (by omega), pk_un (by omega)])
  obtain ⟨W0, hW0⟩ : ∃ W0, W0 = upd (upd W (37 + p) (nI 0)) (42 + p) (nI 0) := ⟨_, rfl⟩
  rw [← hW0] at hi0
  have h03 : W0 3 = W 3 := by rw [hW0, pk_un (by omega), pk_un (by omega)]
  have h05 : W0 5 = W 5 := by rw [hW0, pk_un (by omega), pk_un (by omega)]
  refine mw_ofG (P := pX5_forget) (by decide) (md_As hmb) oX5_forget (Nat.le_of_ble_eq_true rfl) ?_
  intro pg e0 sg mg below meth cd X hs
  refine mw_pre (I' := md_I Γ mb W ρ) (fun H1 h1 => by rw [h1]; exact hH) ?_
  refine mw_steps X 1 (pc' := 1) (lv' := [(0, .ref mb), (1, .int (nI p))]) (st' := [.ref mb]) rfl ?_
  refine mw_get X kf_X5_7.fl kc_5 rfl (v := .ref (mb + 1)) (fun H h => ⟨_, h.1, rfl⟩) ?_
  refine mw_steps X 3 (pc' := 8) (lv' := [(0, .ref mb), (1, .int (nI p))]) (st' := [.int ((nI 32) + (nI p)), .ref (mb + 1)]) rfl ?_
  refine mw_iald X (v := W (32 + p)) (32 + p) (by simp only [nI_add, pk_mul]) rfl (fun H h => ⟨_, _, h.2.1, by omega, by decide, rfl⟩) ?_
  refine mw_steps X 1 (pc' := 10) (lv' := [(0, .ref mb), (1, .int (nI p))]) (st' := [.int (nI 1), .int (W (32 + p))]) rfl ?_
  refine mw_icmp_ne X 14 rfl rfl (fun c10 => ?_) (fun c10 => ?_)
  · refine mw_steps X 1 (pc' := 15) (lv' := [(0, .ref mb), (1, .int (nI p))]) (st' := [.ref mb]) rfl ?_
    refine mw_get X kf_X5_7.fl kc_5 rfl (v := .ref (mb + 1)) (fun H h => ⟨_, h.1, rfl⟩) ?_
    refine mw_steps X 4 (pc' := 23) (lv' := [(0, .ref mb), (1, .int (nI p))]) (st' := [.int (nI 0), .int ((nI 37) + (nI p)), .ref (mb + 1)]) rfl ?_
    refine mw_iast X (I1 := md_I Γ mb (upd W (37 + p) (nI 0)) ρ) (37 + p) (by simp only [nI_add, pk_mul]) rfl (fun H h => ⟨md_A1, _, _, h.2.1, by omega, by decide, fun H1 o c => h.stw o c⟩) ?_
    refine mw_steps X 1 (pc' := 25) (lv' := [(0, .ref mb), (1, .int (nI p))]) (st' := [.ref mb]) rfl ?_
    refine mw_get X kf_X5_7.fl kc_5 rfl (v := .ref (mb + 1)) (fun H h => ⟨_, h.1, rfl⟩) ?_
    refine mw_steps X 4 (pc' := 33) (lv' := [(0, .ref mb), (1, .int (nI p))]) (st' := [.int (nI 0), .int ((nI 42) + (nI p)), .ref (mb + 1)]) rfl ?_
    refine mw_iast X (I1 := md_I Γ mb (upd (upd W (37 + p) (nI 0)) (42 + p) (nI 0)) ρ) (42 + p) (by simp only [nI_add, pk_mul]) rfl (fun H h => ⟨md_A1, _, _, h.2.1, by omega, by decide, fun H1 o c => h.stw o c⟩) ?_
    refine mw_steps X 2 (pc' := 36) (lv' := [(0, .ref mb), (1, .int (nI p))]) (st' := [.int (nI p), .ref mb]) rfl ?_
    rw [show upd (upd W (37 + p) (nI 0)) (42 + p) (nI 0) = W0 from hW0.symm]
    refine mw_cV1r X kd_X5_firstHeld kv_X5_firstHeld kl_X5_44 (ci := 5) rfl rfl (Nat.le_of_ble_eq_true rfl) ⟨Nat.le_of_ble_eq_true rfl, Nat.le_of_ble_eq_true rfl⟩ ⟨Nat.le_of_ble_eq_true rfl, Nat.le_of_ble_eq_true rfl⟩ (fun _ h => h) (fun H h => ⟨⟨_, h.1⟩, cm_fh hmb h (ml_i12 hi0.1) (ml_n12 hi0.1)⟩) ?_
    refine mw_steps X 1 (pc' := 40) (lv' := [(2, .int (mo_ix (mo_fh W0 p) (mo_n (W0 12)))), (0, .ref mb), (1, .int (nI p))]) (st' := []) rfl ?_
    refine mw_wf (σ := Nat → Int32) (fun V => mo_n (V 12)) (fun V => iv c V ∧ mo_dh p (mo_n (V 12)) V = mo_drop W0 p ∧ V 3 = W 3 ∧ V 5 = W 5) (fun V => md_I Γ mb V ρ) (fun V => [(2, .int (mo_ix (mo_fh V p) (mo_n (V 12)))), (0, .ref mb), (1, .int (nI p))]) (fun V hV ih => ?_) W0 ⟨hi0, rfl, h03, h05⟩
    obtain ⟨hv, hlo, hV3, hV5⟩ := hV
    have hn := ml_i12 hv.1
    have hn2 := ml_n12 hv.1
    by_cases hf : mo_fh V p < mo_n (V 12)
    · rw [show mo_ix (mo_fh V p) (mo_n (V 12)) = nI (mo_fh V p) from if_pos hf]
      obtain ⟨k, hk⟩ : ∃ k, k = mo_fh V p := ⟨_, rfl⟩
      rw [← hk] at hf ⊢
      obtain ⟨r, hr⟩ : ∃ r, mo_n (V 12) = r + 1 := ⟨mo_n (V 12) - 1, by omega⟩
      have hlo2 : mo_dh p (r + 1) V = mo_drop W0 p := by rw [← hr]; exact hlo
      unfold mo_dh at hlo2
      rw [← hk, if_pos hf] at hlo2
      refine mw_steps X 1 (pc' := 41) (lv' := [(2, .int (nI k)), (0, .ref mb), (1, .int (nI p))]) (st' := [.int (nI k)]) rfl ?_
      refine mw_if_lt X 64 rfl rfl (fun c41 => absurd c41 (nI_pos (by omega))) (fun c41 => ?_)
      refine mw_steps X 5 (pc' := 52) (lv' := [(2, .int (nI k)), (0, .ref mb), (1, .int (nI p))]) (st' := [.int (nI k), .int (nI 12), .int (nI 3), .int (nI 471), .ref mb]) rfl ?_
      refine mw_cV4v X kd_X5_removeAt kv_X5_removeAt kl_X5_29 (ci := 5) rfl rfl (Nat.le_of_ble_eq_true rfl) ⟨Nat.le_of_ble_eq_true rfl, Nat.le_of_ble_eq_true rfl⟩ ⟨Nat.le_of_ble_eq_true rfl, Nat.le_of_ble_eq_true rfl⟩ (fun _ h => h) (fun H h => ⟨⟨_, h.1⟩, cm_removeAt hmb h (f := 471) (z := 3) (q := 12) hn (by omega) (by omega) (by omega) (by omega) (by omega)⟩) ?_
      obtain ⟨V2, hV2⟩ : ∃ V2, V2 = mo_rm V 471 3 12 k := ⟨_, rfl⟩
      rw [← hV2] at hlo2 ⊢
      have hi2 : iv c V2 := by rw [hV2]; exact iv_rmh hv hf
      have h12 : mo_n (V2 12) = r := by rw [hV2, ml_rmh_q hn (by omega), ml_n (by omega)]; omega
      have hV23 : V2 3 = W 3 := by rw [hV2, ml_rmh_out hn (by omega) hf (by omega) (by omega)]; exact hV3
      have hV25 : V2 5 = W 5 := by rw [hV2, ml_rmh_out hn (by omega) hf (by omega) (by omega)]; exact hV5
      refine mw_steps X 2 (pc' := 57) (lv' := [(2, .int (nI k)), (0, .ref mb), (1, .int (nI p))]) (st' := [.int (nI p), .ref mb]) rfl ?_
      refine mw_cV1r X kd_X5_firstHeld kv_X5_firstHeld kl_X5_44 (ci := 5) rfl rfl (Nat.le_of_ble_eq_true rfl) ⟨Nat.le_of_ble_eq_true rfl, Nat.le_of_ble_eq_true rfl⟩ ⟨Nat.le_of_ble_eq_true rfl, Nat.le_of_ble_eq_true rfl⟩ (fun _ h => h) (fun H h => ⟨⟨_, h.1⟩, cm_fh hmb h (ml_i12 hi2.1) (ml_n12 hi2.1)⟩) ?_
      refine mw_steps X 2 (pc' := 40) (lv' := [(2, .int (mo_ix (mo_fh V2 p) (mo_n (V2 12)))), (0, .ref mb), (1, .int (nI p))]) (st' := []) rfl ?_
      exact ih V2 ⟨hi2, by rw [h12]; exact hlo2, hV23, hV25⟩ (by omega)
    · rw [show mo_ix (mo_fh V p) (mo_n (V 12)) = -1 from if_neg hf]
      have hlo2 : V = mo_drop W0 p := by
        rw [← hlo]
        cases hz : mo_n (V 12) with
        | zero => rfl
        | succ r => unfold mo_dh; rw [if_neg hf]
      refine mw_steps X 1 (pc' := 41) (lv' := [(2, .int (-1)), (0, .ref mb), (1, .int (nI p))]) (st' := [.int (-1)]) rfl ?_
      refine mw_if_lt X 64 rfl rfl (fun c41 => ?_) (fun c41 => absurd (by decide) c41)
      refine mw_steps X 1 (pc' := 65) (lv' := [(2, .int (-1)), (0, .ref mb), (1, .int (nI p))]) (st' := [.ref mb]) rfl ?_
      refine mw_get X kf_X5_7.fl kc_5 rfl (v := .ref (mb + 1)) (fun H h => ⟨_, h.1, rfl⟩) ?_
      refine mw_steps X 2 (pc' := 70) (lv' := [(2, .int (-1)), (0, .ref mb), (1, .int (nI p))]) (st' := [.ref mb, .int (nI 3), .ref (mb + 1)]) rfl ?_
      refine mw_get X kf_X5_7.fl kc_5 rfl (v := .ref (mb + 1)) (fun H h => ⟨_, h.1, rfl⟩) ?_
      refine mw_steps X 1 (pc' := 74) (lv' := [(2, .int (-1)), (0, .ref mb), (1, .int (nI p))]) (st' := [.int (nI 3), .ref (mb + 1), .int (nI 3), .ref (mb + 1)]) rfl ?_
      refine mw_iald X (v := W 3) (3) rfl rfl (fun H h => ⟨_, _, h.2.1, by omega, by decide, hV3⟩) ?_
      refine mw_steps X 1 (pc' := 76) (lv' := [(2, .int (-1)), (0, .ref mb), (1, .int (nI p))]) (st' := [.int (nI p), .int (W 3), .int (nI 3), .ref (mb + 1)]) rfl ?_
      refine mw_icmp_ne X 88 rfl rfl (fun c76 => ?_) (fun c76 => ?_)
      · refine mw_steps X 1 (pc' := 89) (lv' := [(2, .int (-1)), (0, .ref mb), (1, .int (nI p))]) (st' := [.ref mb, .int (nI 3), .ref (mb + 1)]) rfl ?_
        refine mw_get X kf_X5_7.fl kc_5 rfl (v := .ref (mb + 1)) (fun H h => ⟨_, h.1, rfl⟩) ?_
        refine mw_steps X 1 (pc' := 93) (lv' := [(2, .int (-1)), (0, .ref mb), (1, .int (nI p))]) (st' := [.int (nI 3), .ref (mb + 1), .int (nI 3), .ref (mb + 1)]) rfl ?_
        refine mw_iald X (v := W 3) (3) rfl rfl (fun H h => ⟨_, _, h.2.1, by omega, by decide, hV3⟩) ?_
        refine mw_iast X (I1 := md_I Γ mb (upd V (3) (W 3)) ρ) (3) rfl rfl (fun H h => ⟨md_A1, _, _, h.2.1, by omega, by decide, fun H1 o c => h.stw o c⟩) ?_
        exact mw_vret X rfl rfl (fun H h => ⟨rfl, by rw [show mo_forget W p = upd V (3) (W 3) from by rw [ml_forget_f c10 (V := V) (by rw [hlo2, hW0])]; first | rw [if_pos c76] | rw [if_neg c76]]; exact h⟩)
      · refine mw_steps X 1 (pc' := 80) (lv' := [(2, .int (-1)), (0, .ref mb), (1, .int (nI p))]) (st' := [.ref mb, .int (nI 3), .ref (mb + 1)]) rfl ?_
        refine mw_get X kf_X5_7.fl kc_5 rfl (v := .ref (mb + 1)) (fun H h => ⟨_, h.1, rfl⟩) ?_
        refine mw_steps X 1 (pc' := 84) (lv' := [(2, .int (-1)), (0, .ref mb), (1, .int (nI p))]) (st' := [.int (nI 5), .ref (mb + 1), .int (nI 3), .ref (mb + 1)]) rfl ?_
        refine mw_iald X (v := W 5) (5) rfl rfl (fun H h => ⟨_, _, h.2.1, by omega, by decide, hV5⟩) ?_
        refine mw_steps X 1 (pc' := 94) (lv' := [(2, .int (-1)), (0, .ref mb), (1, .int (nI p))]) (st' := [.int (W 5), .int (nI 3), .ref (mb + 1)]) rfl ?_
        refine mw_iast X (I1 := md_I Γ mb (upd V (3) (W 5)) ρ) (3) rfl rfl (fun H h => ⟨md_A1, _, _, h.2.1, by omega, by decide, fun H1 o c => h.stw o c⟩) ?_
        exact mw_vret X rfl rfl (fun H h => ⟨rfl, by rw [show mo_forget W p = upd V (3) (W 5) from by rw [ml_forget_f c10 (V := V) (by rw [hlo2, hW0])]; first | rw [if_pos c76] | rw [if_neg c76]]; exact h⟩)
  · exact mw_vret X rfl rfl (fun H h => ⟨rfl, by rw [show mo_forget W p = W from by exact ml_forget_t c10]; exact h⟩)
set_option maxHeartbeats 4000000 in
set_option maxRecDepth 20000 in
theorem cm_giveUp {l : Launch} {Γ : mw_C} {mb : Nat} (hmb : Γ.2.2.2 ≤ mb) {W : Nat → Int32} {ρ : md_R} {H : Heap} {p c : Nat} (hH : md_I Γ mb W ρ H) (hv : iv (c + 2) W) (hp : p < 5) : mw_Cr l Γ mX5_giveUp 6 0 0 (md_A mb) [.ref mb, .int (nI p)] H none (md_I Γ mb (mo_giveUp W p) ρ) := by
  refine mw_ofG (P := pX5_giveUp) (by decide) (md_As hmb) oX5_giveUp (Nat.le_of_ble_eq_true rfl) ?_
  intro pg e0 sg mg below meth cd X hs
  refine mw_pre (I' := md_I Γ mb W ρ) (fun H1 h1 => by rw [h1]; exact hH) ?_
  refine mw_steps X 1 (pc' := 1) (lv' := [(0, .ref mb), (1, .int (nI p))]) (st' := [.ref mb]) rfl ?_
  refine mw_get X kf_X5_7.fl kc_5 rfl (v := .ref (mb + 1)) (fun H h => ⟨_, h.1, rfl⟩) ?_
  refine mw_steps X 3 (pc' := 8) (lv' := [(0, .ref mb), (1, .int (nI p))]) (st' := [.int ((nI 22) + (nI p)), .ref (mb + 1)]) rfl ?_
  refine mw_iald X (v := W (22 + p)) (22 + p) (by simp only [nI_add, pk_mul]) rfl (fun H h => ⟨_, _, h.2.1, by omega, by decide, rfl⟩) ?_
  refine mw_if_lt X 25 rfl rfl (fun c9 => ?_) (fun c9 => ?_)
  · exact mw_vret X rfl rfl (fun H h => ⟨rfl, by rw [show mo_giveUp W p = W from by exact ml_giveUp_t (by first | exact Or.inl c9 | exact Or.inr c22)]; exact h⟩)
  · refine mw_steps X 1 (pc' := 13) (lv' := [(0, .ref mb), (1, .int (nI p))]) (st' := [.ref mb]) rfl ?_
    refine mw_get X kf_X5_7.fl kc_5 rfl (v := .ref (mb + 1)) (fun H h => ⟨_, h.1, rfl⟩) ?_
    refine mw_steps X 3 (pc' := 20) (lv' := [(0, .ref mb), (1, .int (nI p))]) (st' := [.int ((nI 27) + (nI p)), .ref (mb + 1)]) rfl ?_
    refine mw_iald X (v := W (27 + p)) (27 + p) (by simp only [nI_add, pk_mul]) rfl (fun H h => ⟨_, _, h.2.1, by omega, by decide, rfl⟩) ?_
    refine mw_steps X 1 (pc' := 22) (lv' := [(0, .ref mb), (1, .int (nI p))]) (st' := [.int (nI 1), .int (W (27 + p))]) rfl ?_
    refine mw_icmp_ne X 26 rfl rfl (fun c22 => ?_) (fun c22 => ?_)
    · refine mw_steps X 1 (pc' := 27) (lv' := [(0, .ref mb), (1, .int (nI p))]) (st' := [.ref mb]) rfl ?_
      refine mw_get X kf_X5_7.fl kc_5 rfl (v := .ref (mb + 1)) (fun H h => ⟨_, h.1, rfl⟩) ?_
      refine mw_steps X 1 (pc' := 31) (lv' := [(0, .ref mb), (1, .int (nI p))]) (st' := [.int (nI 2), .ref (mb + 1)]) rfl ?_
      refine mw_iald X (v := W (2)) (2) rfl rfl (fun H h => ⟨_, _, h.2.1, by omega, by decide, rfl⟩) ?_
      refine mw_steps X 1 (pc' := 33) (lv' := [(0, .ref mb), (1, .int (nI p))]) (st' := [.int (nI p), .int (W (2))]) rfl ?_
      refine mw_icmp_ne X 72 rfl rfl (fun c33 => ?_) (fun c33 => ?_)
      · have hiB : iv (c + 1) (mo_back W p) := iv_back hv
        obtain ⟨B, hB⟩ : ∃ B, B = mo_back W p := ⟨_, rfl⟩
        rw [← hB] at hiB
        refine mw_pre (I' := md_I Γ mb B ρ) (fun H h => by rw [hB, ← show W = mo_back W p from by exact (ml_back_f (by first | exact fun q => c33 q.1 | exact fun q => Int32.not_lt.mpr q.2.1 c42 | (rw [hf, ml_n (by omega)]; exact fun q => Int32.not_lt.mpr q.2.2 c59))).symm]; exact h) ?_
        refine mw_steps X 1 (pc' := 73) (lv' := [(0, .ref mb), (1, .int (nI p))]) (st' := [.ref mb]) rfl ?_
        refine mw_get X kf_X5_7.fl kc_5 rfl (v := .ref (mb + 1)) (fun H h => ⟨_, h.1, rfl⟩) ?_
        refine mw_steps X 1 (pc' := 77) (lv' := [(0, .ref mb), (1, .int (nI p))]) (st' := [.int (nI 2), .ref (mb + 1)]) rfl ?_
        refine mw_iald X (v := B (2)) (2) rfl rfl (fun H h => ⟨_, _, h.2.1, by omega, by decide, rfl⟩) ?_
        refine mw_steps X 1 (pc' := 79) (lv' := [(0, .ref mb), (1, .int (nI p))]) (st' := [.int (nI p), .int (B (2))]) rfl ?_
        refine mw_icmp_eq X 87 rfl rfl (fun c79 => ?_) (fun c79 => ?_)
        · exact mw_vret X rfl rfl (fun H h => ⟨rfl, by rw [show mo_giveUp W p = B from by rw [ml_giveUp_f c9 c22, ← hB]; unfold mo_leave; first | rw [if_pos c79] | rw [if_neg c79]]; exact h⟩)
        · refine mw_steps X 2 (pc' := 84) (lv' := [(0, .ref mb), (1, .int (nI p))]) (st' := [.int (nI p), .ref mb]) rfl ?_
          refine mw_cV1v X kd_X5_closeNow kv_X5_closeNow kl_X5_104 (ci := 5) rfl rfl (Nat.le_of_ble_eq_true rfl) ⟨Nat.le_of_ble_eq_true rfl, Nat.le_of_ble_eq_true rfl⟩ ⟨Nat.le_of_ble_eq_true rfl, Nat.le_of_ble_eq_true rfl⟩ (fun _ h => h) (fun H h => ⟨⟨_, h.1⟩, cm_close hmb h hiB hp⟩) ?_
          exact mw_vret X rfl rfl (fun H h => ⟨rfl, by rw [show mo_giveUp W p = mo_close B p from by rw [ml_giveUp_f c9 c22, ← hB]; unfold mo_leave; first | rw [if_pos c79] | rw [if_neg c79]]; exact h⟩)
      · refine mw_steps X 1 (pc' := 37) (lv' := [(0, .ref mb), (1, .int (nI p))]) (st' := [.ref mb]) rfl ?_
        refine mw_get X kf_X5_7.fl kc_5 rfl (v := .ref (mb + 1)) (fun H h => ⟨_, h.1, rfl⟩) ?_
        refine mw_steps X 1 (pc' := 41) (lv' := [(0, .ref mb), (1, .int (nI p))]) (st' := [.int (nI 4), .ref (mb + 1)]) rfl ?_
        refine mw_iald X (v := W (4)) (4) rfl rfl (fun H h => ⟨_, _, h.2.1, by omega, by decide, rfl⟩) ?_
        refine mw_if_lt X 72 rfl rfl (fun c42 => ?_) (fun c42 => ?_)
        · have hiB : iv (c + 1) (mo_back W p) := iv_back hv
          obtain ⟨B, hB⟩ : ∃ B, B = mo_back W p := ⟨_, rfl⟩
          rw [← hB] at hiB
          refine mw_pre (I' := md_I Γ mb B ρ) (fun H h => by rw [hB, ← show W = mo_back W p from by exact (ml_back_f (by first | exact fun q => c33 q.1 | exact fun q => Int32.not_lt.mpr q.2.1 c42 | (rw [hf, ml_n (by omega)]; exact fun q => Int32.not_lt.mpr q.2.2 c59))).symm]; exact h) ?_
          refine mw_steps X 1 (pc' := 73) (lv' := [(0, .ref mb), (1, .int (nI p))]) (st' := [.ref mb]) rfl ?_
          refine mw_get X kf_X5_7.fl kc_5 rfl (v := .ref (mb + 1)) (fun H h => ⟨_, h.1, rfl⟩) ?_
          refine mw_steps X 1 (pc' := 77) (lv' := [(0, .ref mb), (1, .int (nI p))]) (st' := [.int (nI 2), .ref (mb + 1)]) rfl ?_
          refine mw_iald X (v := B (2)) (2) rfl rfl (fun H h => ⟨_, _, h.2.1, by omega, by decide, rfl⟩) ?_
          refine mw_steps X 1 (pc' := 79) (lv' := [(0, .ref mb), (1, .int (nI p))]) (st' := [.int (nI p), .int (B (2))]) rfl ?_
          refine mw_icmp_eq X 87 rfl rfl (fun c79 => ?_) (fun c79 => ?_)
          · exact mw_vret X rfl rfl (fun H h => ⟨rfl, by rw [show mo_giveUp W p = B from by rw [ml_giveUp_f c9 c22, ← hB]; unfold mo_leave; first | rw [if_pos c79] | rw [if_neg c79]]; exact h⟩)
          · refine mw_steps X 2 (pc' := 84) (lv' := [(0, .ref mb), (1, .int (nI p))]) (st' := [.int (nI p), .ref mb]) rfl ?_
            refine mw_cV1v X kd_X5_closeNow kv_X5_closeNow kl_X5_104 (ci := 5) rfl rfl (Nat.le_of_ble_eq_true rfl) ⟨Nat.le_of_ble_eq_true rfl, Nat.le_of_ble_eq_true rfl⟩ ⟨Nat.le_of_ble_eq_true rfl, Nat.le_of_ble_eq_true rfl⟩ (fun _ h => h) (fun H h => ⟨⟨_, h.1⟩, cm_close hmb h hiB hp⟩) ?_
            exact mw_vret X rfl rfl (fun H h => ⟨rfl, by rw [show mo_giveUp W p = mo_close B p from by rw [ml_giveUp_f c9 c22, ← hB]; unfold mo_leave; first | rw [if_pos c79] | rw [if_neg c79]]; exact h⟩)
        · obtain ⟨f, hf5, hf⟩ : ∃ f, f < 5 ∧ W 4 = nI f := by
            rcases hv.2.2.2.2.2.2.2.2.1 with z | z
            · exact absurd (by rw [z]; decide) c42
            · exact z
          refine mw_steps X 1 (pc' := 46) (lv' := [(0, .ref mb), (1, .int (nI p))]) (st' := [.ref mb]) rfl ?_
          refine mw_get X kf_X5_7.fl kc_5 rfl (v := .ref (mb + 1)) (fun H h => ⟨_, h.1, rfl⟩) ?_
          refine mw_steps X 2 (pc' := 52) (lv' := [(0, .ref mb), (1, .int (nI p))]) (st' := [.ref mb, .int (nI 22), .ref (mb + 1)]) rfl ?_
          refine mw_get X kf_X5_7.fl kc_5 rfl (v := .ref (mb + 1)) (fun H h => ⟨_, h.1, rfl⟩) ?_
          refine mw_steps X 1 (pc' := 56) (lv' := [(0, .ref mb), (1, .int (nI p))]) (st' := [.int (nI 4), .ref (mb + 1), .int (nI 22), .ref (mb + 1)]) rfl ?_
          refine mw_iald X (v := nI f) (4) rfl rfl (fun H h => ⟨_, _, h.2.1, by omega, by decide, hf⟩) ?_
          refine mw_steps X 1 (pc' := 58) (lv' := [(0, .ref mb), (1, .int (nI p))]) (st' := [.int ((nI 22) + (nI f)), .ref (mb + 1)]) rfl ?_
          refine mw_iald X (v := W (22 + f)) (22 + f) (by simp only [nI_add, pk_mul]) rfl (fun H h => ⟨_, _, h.2.1, by omega, by decide, rfl⟩) ?_
          refine mw_if_lt X 72 rfl rfl (fun c59 => ?_) (fun c59 => ?_)
          · have hiB : iv (c + 1) (mo_back W p) := iv_back hv
            obtain ⟨B, hB⟩ : ∃ B, B = mo_back W p := ⟨_, rfl⟩
            rw [← hB] at hiB
            refine mw_pre (I' := md_I Γ mb B ρ) (fun H h => by rw [hB, ← show W = mo_back W p from by exact (ml_back_f (by first | exact fun q => c33 q.1 | exact fun q => Int32.not_lt.mpr q.2.1 c42 | (rw [hf, ml_n (by omega)]; exact fun q => Int32.not_lt.mpr q.2.2 c59))).symm]; exact h) ?_
            refine mw_steps X 1 (pc' := 73) (lv' := [(0, .ref mb), (1, .int (nI p))]) (st' := [.ref mb]) rfl ?_
            refine mw_get X kf_X5_7.fl kc_5 rfl (v := .ref (mb + 1)) (fun H h => ⟨_, h.1, rfl⟩) ?_
            refine mw_steps X 1 (pc' := 77) (lv' := [(0, .ref mb), (1, .int (nI p))]) (st' := [.int (nI 2), .ref (mb + 1)]) rfl ?_
            refine mw_iald X (v := B (2)) (2) rfl rfl (fun H h => ⟨_, _, h.2.1, by omega, by decide, rfl⟩) ?_
            refine mw_steps X 1 (pc' := 79) (lv' := [(0, .ref mb), (1, .int (nI p))]) (st' := [.int (nI p), .int (B (2))]) rfl ?_
            refine mw_icmp_eq X 87 rfl rfl (fun c79 => ?_) (fun c79 => ?_)
            · exact mw_vret X rfl rfl (fun H h => ⟨rfl, by rw [show mo_giveUp W p = B from by rw [ml_giveUp_f c9 c22, ← hB]; unfold mo_leave; first | rw [if_pos c79] | rw [if_neg c79]]; exact h⟩)
            · refine mw_steps X 2 (pc' := 84) (lv' := [(0, .ref mb), (1, .int (nI p))]) (st' := [.int (nI p), .ref mb]) rfl ?_
              refine mw_cV1v X kd_X5_closeNow kv_X5_closeNow kl_X5_104 (ci := 5) rfl rfl (Nat.le_of_ble_eq_true rfl) ⟨Nat.le_of_ble_eq_true rfl, Nat.le_of_ble_eq_true rfl⟩ ⟨Nat.le_of_ble_eq_true rfl, Nat.le_of_ble_eq_true rfl⟩ (fun _ h => h) (fun H h => ⟨⟨_, h.1⟩, cm_close hmb h hiB hp⟩) ?_
              exact mw_vret X rfl rfl (fun H h => ⟨rfl, by rw [show mo_giveUp W p = mo_close B p from by rw [ml_giveUp_f c9 c22, ← hB]; unfold mo_leave; first | rw [if_pos c79] | rw [if_neg c79]]; exact h⟩)
          · refine mw_steps X 2 (pc' := 64) (lv' := [(0, .ref mb), (1, .int (nI p))]) (st' := [.ref mb, .ref mb]) rfl ?_
            refine mw_get X kf_X5_7.fl kc_5 rfl (v := .ref (mb + 1)) (fun H h => ⟨_, h.1, rfl⟩) ?_
            refine mw_steps X 1 (pc' := 68) (lv' := [(0, .ref mb), (1, .int (nI p))]) (st' := [.int (nI 4), .ref (mb + 1), .ref mb]) rfl ?_
            refine mw_iald X (v := nI f) (4) rfl rfl (fun H h => ⟨_, _, h.2.1, by omega, by decide, hf⟩) ?_
            refine mw_cV1v X kd_X5_goTo kv_X5_goTo kl_X5_101 (ci := 5) rfl rfl (Nat.le_of_ble_eq_true rfl) ⟨Nat.le_of_ble_eq_true rfl, Nat.le_of_ble_eq_true rfl⟩ ⟨Nat.le_of_ble_eq_true rfl, Nat.le_of_ble_eq_true rfl⟩ (fun _ h => h) (fun H h => ⟨⟨_, h.1⟩, cm_goTo hmb h hv hf5⟩) ?_
            have hiB : iv (c + 1) (mo_back W p) := iv_back hv
            obtain ⟨B, hB⟩ : ∃ B, B = mo_back W p := ⟨_, rfl⟩
            rw [← hB] at hiB
            refine mw_pre (I' := md_I Γ mb B ρ) (fun H h => by rw [hB, ← show mo_goTo W f = mo_back W p from by exact (ml_back_t c33 hf hf5 c59).symm]; exact h) ?_
            refine mw_steps X 1 (pc' := 73) (lv' := [(0, .ref mb), (1, .int (nI p))]) (st' := [.ref mb]) rfl ?_
            refine mw_get X kf_X5_7.fl kc_5 rfl (v := .ref (mb + 1)) (fun H h => ⟨_, h.1, rfl⟩) ?_
            refine mw_steps X 1 (pc' := 77) (lv' := [(0, .ref mb), (1, .int (nI p))]) (st' := [.int (nI 2), .ref (mb + 1)]) rfl ?_
            refine mw_iald X (v := B (2)) (2) rfl rfl (fun H h => ⟨_, _, h.2.1, by omega, by decide, rfl⟩) ?_
            refine mw_steps X 1 (pc' := 79) (lv' := [(0, .ref mb), (1, .int (nI p))]) (st' := [.int (nI p), .int (B (2))]) rfl ?_
            refine mw_icmp_eq X 87 rfl rfl (fun c79 => ?_) (fun c79 => ?_)
            · exact mw_vret X rfl rfl (fun H h => ⟨rfl, by rw [show mo_giveUp W p = B from by rw [ml_giveUp_f c9 c22, ← hB]; unfold mo_leave; first | rw [if_pos c79] | rw [if_neg c79]]; exact h⟩)
            · refine mw_steps X 2 (pc' := 84) (lv' := [(0, .ref mb), (1, .int (nI p))]) (st' := [.int (nI p), .ref mb]) rfl ?_
              refine mw_cV1v X kd_X5_closeNow kv_X5_closeNow kl_X5_104 (ci := 5) rfl rfl (Nat.le_of_ble_eq_true rfl) ⟨Nat.le_of_ble_eq_true rfl, Nat.le_of_ble_eq_true rfl⟩ ⟨Nat.le_of_ble_eq_true rfl, Nat.le_of_ble_eq_true rfl⟩ (fun _ h => h) (fun H h => ⟨⟨_, h.1⟩, cm_close hmb h hiB hp⟩) ?_
              exact mw_vret X rfl rfl (fun H h => ⟨rfl, by rw [show mo_giveUp W p = mo_close B p from by rw [ml_giveUp_f c9 c22, ← hB]; unfold mo_leave; first | rw [if_pos c79] | rw [if_neg c79]]; exact h⟩)
    · exact mw_vret X rfl rfl (fun H h => ⟨rfl, by rw [show mo_giveUp W p = W from by exact ml_giveUp_t (by first | exact Or.inl c9 | exact Or.inr c22)]; exact h⟩)
set_option maxHeartbeats 4000000 in
set_option maxRecDepth 20000 in
theorem cm_look {l : Launch} {Γ : mw_C} {mb : Nat} (hmb : Γ.2.2.2 ≤ mb) {W : Nat → Int32} {ρ : md_R} {H : Heap} {k c : Nat} (hH : md_I Γ mb W ρ H) (hv : iv (c + 2) W) (hk : k < mo_n (W 13)) : mw_Cr l Γ mX5_lookAt 7 0 0 (md_A mb) [.ref mb, .int (nI k)] H (some (.int (mo_b (mo_stays W k)))) (md_I Γ mb (mo_look W k) ρ) := by
  obtain ⟨e, p, t, a1, a2, a3, a4, a5, a6⟩ := hv.2.2.2.2.1 k hk
  have hn := ml_i13 hv.1
  have hn2 := ml_n6 hv.1
  refine mw_ofG (P := pX5_lookAt) (by decide) (md_As hmb) oX5_lookAt (Nat.le_of_ble_eq_true rfl) ?_
  intro pg e0 sg mg below meth cd X hs
  refine mw_pre (I' := md_I Γ mb W ρ) (fun H1 h1 => by rw [h1]; exact hH) ?_
  refine mw_steps X 7 (pc' := 9) (lv' := [(2, .int ((nI 507) + ((nI 5) * (nI k)))), (0, .ref mb), (1, .int (nI k))]) (st' := [.ref mb]) rfl ?_
  refine mw_get X kf_X5_7.fl kc_5 rfl (v := .ref (mb + 1)) (fun H h => ⟨_, h.1, rfl⟩) ?_
  refine mw_steps X 1 (pc' := 13) (lv' := [(2, .int ((nI 507) + ((nI 5) * (nI k)))), (0, .ref mb), (1, .int (nI k))]) (st' := [.int ((nI 507) + ((nI 5) * (nI k))), .ref (mb + 1)]) rfl ?_
  refine mw_iald X (v := nI e) (507 + 5 * k) (by simp only [nI_add, pk_mul]) rfl (fun H h => ⟨_, _, h.2.1, by omega, by decide, a4⟩) ?_
  refine mw_steps X 2 (pc' := 16) (lv' := [(3, .int (nI e)), (2, .int ((nI 507) + ((nI 5) * (nI k)))), (0, .ref mb), (1, .int (nI k))]) (st' := [.ref mb]) rfl ?_
  refine mw_get X kf_X5_7.fl kc_5 rfl (v := .ref (mb + 1)) (fun H h => ⟨_, h.1, rfl⟩) ?_
  refine mw_steps X 3 (pc' := 22) (lv' := [(3, .int (nI e)), (2, .int ((nI 507) + ((nI 5) * (nI k)))), (0, .ref mb), (1, .int (nI k))]) (st' := [.int (((nI 507) + ((nI 5) * (nI k))) + (nI 2)), .ref (mb + 1)]) rfl ?_
  refine mw_iald X (v := nI p) (507 + 5 * k + 2) (by simp only [nI_add, pk_mul]) rfl (fun H h => ⟨_, _, h.2.1, by omega, by decide, a5⟩) ?_
  refine mw_steps X 2 (pc' := 26) (lv' := [(4, .int (nI p)), (3, .int (nI e)), (2, .int ((nI 507) + ((nI 5) * (nI k)))), (0, .ref mb), (1, .int (nI k))]) (st' := [.ref mb]) rfl ?_
  refine mw_get X kf_X5_7.fl kc_5 rfl (v := .ref (mb + 1)) (fun H h => ⟨_, h.1, rfl⟩) ?_
  refine mw_steps X 1 (pc' := 30) (lv' := [(4, .int (nI p)), (3, .int (nI e)), (2, .int ((nI 507) + ((nI 5) * (nI k)))), (0, .ref mb), (1, .int (nI k))]) (st' := [.int (nI 0), .ref (mb + 1)]) rfl ?_
  refine mw_iald X (v := W (0)) (0) rfl rfl (fun H h => ⟨_, _, h.2.1, by omega, by decide, rfl⟩) ?_
  refine mw_steps X 1 (pc' := 32) (lv' := [(4, .int (nI p)), (3, .int (nI e)), (2, .int ((nI 507) + ((nI 5) * (nI k)))), (0, .ref mb), (1, .int (nI k))]) (st' := [.ref mb, .int (W (0))]) rfl ?_
  refine mw_get X kf_X5_7.fl kc_5 rfl (v := .ref (mb + 1)) (fun H h => ⟨_, h.1, rfl⟩) ?_
  refine mw_steps X 3 (pc' := 38) (lv' := [(4, .int (nI p)), (3, .int (nI e)), (2, .int ((nI 507) + ((nI 5) * (nI k)))), (0, .ref mb), (1, .int (nI k))]) (st' := [.int (((nI 507) + ((nI 5) * (nI k))) + (nI 3)), .ref (mb + 1), .int (W (0))]) rfl ?_
  refine mw_iald X (v := W (507 + 5 * k + 3)) (507 + 5 * k + 3) (by simp only [nI_add, pk_mul]) rfl (fun H h => ⟨_, _, h.2.1, by omega, by decide, rfl⟩) ?_
  refine mw_steps X 2 (pc' := 41) (lv' := [(4, .int (nI p)), (3, .int (nI e)), (2, .int ((nI 507) + ((nI 5) * (nI k)))), (0, .ref mb), (1, .int (nI k))]) (st' := [.int (nI 3), .int ((W (0)) - (W (507 + 5 * k + 3)))]) rfl ?_
  refine mw_icmp_ge X 46 rfl rfl (fun c41 => ?_) (fun c41 => ?_)
  · refine mw_steps X 1 (pc' := 47) (lv' := [(4, .int (nI p)), (3, .int (nI e)), (2, .int ((nI 507) + ((nI 5) * (nI k)))), (0, .ref mb), (1, .int (nI k))]) (st' := [.ref mb]) rfl ?_
    refine mw_get X kf_X5_7.fl kc_5 rfl (v := .ref (mb + 1)) (fun H h => ⟨_, h.1, rfl⟩) ?_
    refine mw_steps X 3 (pc' := 53) (lv' := [(4, .int (nI p)), (3, .int (nI e)), (2, .int ((nI 507) + ((nI 5) * (nI k)))), (0, .ref mb), (1, .int (nI k))]) (st' := [.int (((nI 507) + ((nI 5) * (nI k))) + (nI 4)), .ref (mb + 1)]) rfl ?_
    refine mw_iald X (v := W (507 + 5 * k + 4)) (507 + 5 * k + 4) (by simp only [nI_add, pk_mul]) rfl (fun H h => ⟨_, _, h.2.1, by omega, by decide, rfl⟩) ?_
    refine mw_steps X 1 (pc' := 55) (lv' := [(4, .int (nI p)), (3, .int (nI e)), (2, .int ((nI 507) + ((nI 5) * (nI k)))), (0, .ref mb), (1, .int (nI k))]) (st' := [.int (nI 2), .int (W (507 + 5 * k + 4))]) rfl ?_
    refine mw_icmp_ge X 102 rfl rfl (fun c55 => ?_) (fun c55 => ?_)
    · refine mw_steps X 5 (pc' := 110) (lv' := [(4, .int (nI p)), (3, .int (nI e)), (2, .int ((nI 507) + ((nI 5) * (nI k)))), (0, .ref mb), (1, .int (nI k))]) (st' := [.int (nI k), .int (nI 13), .int (nI 5), .int (nI 507), .ref mb]) rfl ?_
      refine mw_cV4v X kd_X5_removeAt kv_X5_removeAt kl_X5_29 (ci := 5) rfl rfl (Nat.le_of_ble_eq_true rfl) ⟨Nat.le_of_ble_eq_true rfl, Nat.le_of_ble_eq_true rfl⟩ ⟨Nat.le_of_ble_eq_true rfl, Nat.le_of_ble_eq_true rfl⟩ (fun _ h => h) (fun H h => ⟨⟨_, h.1⟩, cm_removeAt hmb h (f := 507) (z := 5) (q := 13) hn (by omega) (by omega) (by omega) (by omega) (by omega)⟩) ?_
      refine mw_steps X 2 (pc' := 115) (lv' := [(4, .int (nI p)), (3, .int (nI e)), (2, .int ((nI 507) + ((nI 5) * (nI k)))), (0, .ref mb), (1, .int (nI k))]) (st' := [.int (nI 1), .int (nI e)]) rfl ?_
      refine mw_icmp_ne X 127 rfl rfl (fun c115 => ?_) (fun c115 => ?_)
      · refine mw_steps X 2 (pc' := 130) (lv' := [(4, .int (nI p)), (3, .int (nI e)), (2, .int ((nI 507) + ((nI 5) * (nI k)))), (0, .ref mb), (1, .int (nI k))]) (st' := [.int (nI p), .ref mb]) rfl ?_
        refine mw_cV1v X kd_X5_giveUp kv_X5_giveUp kl_X5_110 (ci := 5) rfl rfl (Nat.le_of_ble_eq_true rfl) ⟨Nat.le_of_ble_eq_true rfl, Nat.le_of_ble_eq_true rfl⟩ ⟨Nat.le_of_ble_eq_true rfl, Nat.le_of_ble_eq_true rfl⟩ (fun _ h => h) (fun H h => ⟨⟨_, h.1⟩, cm_giveUp hmb h (iv_rma hv hk) a2⟩) ?_
        refine mw_steps X 1 (pc' := 134) (lv' := [(4, .int (nI p)), (3, .int (nI e)), (2, .int ((nI 507) + ((nI 5) * (nI k)))), (0, .ref mb), (1, .int (nI k))]) (st' := [.int (nI 0)]) rfl ?_
        exact mw_zret X rfl (by decide) rfl (fun H h => ⟨by rw [(ml_look_3 (Int32.not_lt.mpr c41) (Int32.not_lt.mpr c55) a4 a5 a1 a2).1]; rfl, by rw [(ml_look_3 (Int32.not_lt.mpr c41) (Int32.not_lt.mpr c55) a4 a5 a1 a2).2, if_neg c115]; exact h⟩)
      · refine mw_steps X 2 (pc' := 121) (lv' := [(4, .int (nI p)), (3, .int (nI e)), (2, .int ((nI 507) + ((nI 5) * (nI k)))), (0, .ref mb), (1, .int (nI k))]) (st' := [.int (nI p), .ref mb]) rfl ?_
        refine mw_cV1v X kd_X5_forget kv_X5_forget kl_X5_107 (ci := 5) rfl rfl (Nat.le_of_ble_eq_true rfl) ⟨Nat.le_of_ble_eq_true rfl, Nat.le_of_ble_eq_true rfl⟩ ⟨Nat.le_of_ble_eq_true rfl, Nat.le_of_ble_eq_true rfl⟩ (fun _ h => h) (fun H h => ⟨⟨_, h.1⟩, cm_forget hmb h (iv_rma hv hk) a2⟩) ?_
        refine mw_steps X 2 (pc' := 134) (lv' := [(4, .int (nI p)), (3, .int (nI e)), (2, .int ((nI 507) + ((nI 5) * (nI k)))), (0, .ref mb), (1, .int (nI k))]) (st' := [.int (nI 0)]) rfl ?_
        exact mw_zret X rfl (by decide) rfl (fun H h => ⟨by rw [(ml_look_3 (Int32.not_lt.mpr c41) (Int32.not_lt.mpr c55) a4 a5 a1 a2).1]; rfl, by rw [(ml_look_3 (Int32.not_lt.mpr c41) (Int32.not_lt.mpr c55) a4 a5 a1 a2).2, if_pos c115]; exact h⟩)
    · refine mw_steps X 1 (pc' := 59) (lv' := [(4, .int (nI p)), (3, .int (nI e)), (2, .int ((nI 507) + ((nI 5) * (nI k)))), (0, .ref mb), (1, .int (nI k))]) (st' := [.ref mb]) rfl ?_
      refine mw_get X kf_X5_7.fl kc_5 rfl (v := .ref (mb + 1)) (fun H h => ⟨_, h.1, rfl⟩) ?_
      refine mw_steps X 4 (pc' := 66) (lv' := [(4, .int (nI p)), (3, .int (nI e)), (2, .int ((nI 507) + ((nI 5) * (nI k)))), (0, .ref mb), (1, .int (nI k))]) (st' := [.int (((nI 507) + ((nI 5) * (nI k))) + (nI 4)), .ref (mb + 1), .int (((nI 507) + ((nI 5) * (nI k))) + (nI 4)), .ref (mb + 1)]) rfl ?_
      refine mw_iald X (v := W (507 + 5 * k + 4)) (507 + 5 * k + 4) (by simp only [nI_add, pk_mul]) rfl (fun H h => ⟨_, _, h.2.1, by omega, by decide, rfl⟩) ?_
      refine mw_steps X 2 (pc' := 69) (lv' := [(4, .int (nI p)), (3, .int (nI e)), (2, .int ((nI 507) + ((nI 5) * (nI k)))), (0, .ref mb), (1, .int (nI k))]) (st' := [.int ((W (507 + 5 * k + 4)) + (nI 1)), .int (((nI 507) + ((nI 5) * (nI k))) + (nI 4)), .ref (mb + 1)]) rfl ?_
      refine mw_iast X (I1 := md_I Γ mb (upd W (507 + 5 * k + 4) ((W (507 + 5 * k + 4)) + (nI 1))) ρ) (507 + 5 * k + 4) (by simp only [nI_add, pk_mul]) rfl (fun H h => ⟨md_A1, _, _, h.2.1, by omega, by decide, fun H1 o c => h.stw o c⟩) ?_
      refine mw_steps X 1 (pc' := 71) (lv' := [(4, .int (nI p)), (3, .int (nI e)), (2, .int ((nI 507) + ((nI 5) * (nI k)))), (0, .ref mb), (1, .int (nI k))]) (st' := [.ref mb]) rfl ?_
      refine mw_get X kf_X5_7.fl kc_5 rfl (v := .ref (mb + 1)) (fun H h => ⟨_, h.1, rfl⟩) ?_
      refine mw_steps X 4 (pc' := 78) (lv' := [(4, .int (nI p)), (3, .int (nI e)), (2, .int ((nI 507) + ((nI 5) * (nI k)))), (0, .ref mb), (1, .int (nI k))]) (st' := [.ref mb, .int (((nI 507) + ((nI 5) * (nI k))) + (nI 3)), .ref (mb + 1)]) rfl ?_
      refine mw_get X kf_X5_7.fl kc_5 rfl (v := .ref (mb + 1)) (fun H h => ⟨_, h.1, rfl⟩) ?_
      refine mw_steps X 1 (pc' := 82) (lv' := [(4, .int (nI p)), (3, .int (nI e)), (2, .int ((nI 507) + ((nI 5) * (nI k)))), (0, .ref mb), (1, .int (nI k))]) (st' := [.int (nI 0), .ref (mb + 1), .int (((nI 507) + ((nI 5) * (nI k))) + (nI 3)), .ref (mb + 1)]) rfl ?_
      refine mw_iald X (v := W (0)) (0) rfl rfl (fun H h => ⟨_, _, h.2.1, by omega, by decide, (by simp (disch := omega) only [pk_un])⟩) ?_
      refine mw_iast X (I1 := md_I Γ mb (upd (upd W (507 + 5 * k + 4) ((W (507 + 5 * k + 4)) + (nI 1))) (507 + 5 * k + 3) (W (0))) ρ) (507 + 5 * k + 3) (by simp only [nI_add, pk_mul]) rfl (fun H h => ⟨md_A1, _, _, h.2.1, by omega, by decide, fun H1 o c => h.stw o c⟩) ?_
      refine mw_steps X 5 (pc' := 90) (lv' := [(4, .int (nI p)), (3, .int (nI e)), (2, .int ((nI 507) + ((nI 5) * (nI k)))), (0, .ref mb), (1, .int (nI k))]) (st' := [.ref mb, .int (nI 1), .int (nI p), .int (nI e), .ref mb]) rfl ?_
      refine mw_get X kf_X5_7.fl kc_5 rfl (v := .ref (mb + 1)) (fun H h => ⟨_, h.1, rfl⟩) ?_
      refine mw_steps X 3 (pc' := 96) (lv' := [(4, .int (nI p)), (3, .int (nI e)), (2, .int ((nI 507) + ((nI 5) * (nI k)))), (0, .ref mb), (1, .int (nI k))]) (st' := [.int (((nI 507) + ((nI 5) * (nI k))) + (nI 1)), .ref (mb + 1), .int (nI 1), .int (nI p), .int (nI e), .ref mb]) rfl ?_
      refine mw_iald X (v := W (507 + 5 * k + 1)) (507 + 5 * k + 1) (by simp only [nI_add, pk_mul]) rfl (fun H h => ⟨_, _, h.2.1, by omega, by decide, (by simp (disch := omega) only [pk_un])⟩) ?_
      refine mw_cV4v X kd_X5_goes kv_X5_goes kl_X5_47 (ci := 5) rfl rfl (Nat.le_of_ble_eq_true rfl) ⟨Nat.le_of_ble_eq_true rfl, Nat.le_of_ble_eq_true rfl⟩ ⟨Nat.le_of_ble_eq_true rfl, Nat.le_of_ble_eq_true rfl⟩ (fun _ h => h) (fun H h => ⟨⟨_, h.1⟩, cm_goes hmb h (k := 1) (hv.1.cg (fun j a b => by simp (disch := omega) only [pk_un])) a1 a2 (by omega)⟩) ?_
      refine mw_steps X 1 (pc' := 101) (lv' := [(4, .int (nI p)), (3, .int (nI e)), (2, .int ((nI 507) + ((nI 5) * (nI k)))), (0, .ref mb), (1, .int (nI k))]) (st' := [.int (nI 1)]) rfl ?_
      exact mw_zret X rfl (by decide) rfl (fun H h => ⟨by rw [(ml_look_2 (Int32.not_lt.mpr c41) (Int32.not_le.mp c55) a4 a5 a1 a2).1]; rfl, by rw [(ml_look_2 (Int32.not_lt.mpr c41) (Int32.not_le.mp c55) a4 a5 a1 a2).2]; exact h⟩)
  · refine mw_steps X 1 (pc' := 45) (lv' := [(4, .int (nI p)), (3, .int (nI e)), (2, .int ((nI 507) + ((nI 5) * (nI k)))), (0, .ref mb), (1, .int (nI k))]) (st' := [.int (nI 1)]) rfl ?_
    exact mw_zret X rfl (by decide) rfl (fun H h => ⟨by rw [(ml_look_1 (Int32.not_le.mp c41)).1]; rfl, by rw [(ml_look_1 (Int32.not_le.mp c41)).2]; exact h⟩)
