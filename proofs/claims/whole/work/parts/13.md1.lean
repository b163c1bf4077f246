set_option maxHeartbeats 4000000 in
theorem cm_sizeOf {l : Launch} {Γ : mw_C} {mb : Nat} (hmb : Γ.2.2.2 ≤ mb) {H : Heap} {k : Nat} (hk : k < 6) {J : Heap → Prop} (hJ : J H) : mw_Cr l Γ mX5_sizeOf 1 0 0 (md_A mb) [.int (nI k)] H (some (.int (mw_sz k))) J := by
  refine mw_ofG (P := pX5_sizeOf) (by decide) (md_As hmb) oX5_sizeOf (Nat.le_of_ble_eq_true rfl) ?_
  intro pg e0 sg mg below meth cd X hs
  refine mw_pre (I' := J) (fun H1 h1 => by rw [h1]; exact hJ) ?_
  match k, hk with
  | 0, _ =>
    refine mw_steps X 1 (pc' := 1) (lv' := [(0, .int (nI 0))]) (st' := [.int (nI 0)]) rfl ?_
    refine mw_if_ne X 8 rfl rfl (fun c1 => absurd (by decide) c1) (fun c1 => ?_)
    refine mw_steps X 2 (pc' := 27) (lv' := [(0, .int (nI 0))]) (st' := [.int (nI 5)]) rfl ?_
    exact mw_iret X rfl rfl (fun H h => ⟨rfl, h⟩)
  | 1, _ =>
    refine mw_steps X 1 (pc' := 1) (lv' := [(0, .int (nI 1))]) (st' := [.int (nI 1)]) rfl ?_
    refine mw_if_ne X 8 rfl rfl (fun c1 => ?_) (fun c1 => absurd c1 (by decide))
    refine mw_steps X 2 (pc' := 10) (lv' := [(0, .int (nI 1))]) (st' := [.int (nI 3), .int (nI 1)]) rfl ?_
    refine mw_icmp_ge X 17 rfl rfl (fun c10 => absurd c10 (by decide)) (fun c10 => ?_)
    refine mw_steps X 2 (pc' := 27) (lv' := [(0, .int (nI 1))]) (st' := [.int (nI 4)]) rfl ?_
    exact mw_iret X rfl rfl (fun H h => ⟨rfl, h⟩)
  | 2, _ =>
    refine mw_steps X 1 (pc' := 1) (lv' := [(0, .int (nI 2))]) (st' := [.int (nI 2)]) rfl ?_
    refine mw_if_ne X 8 rfl rfl (fun c1 => ?_) (fun c1 => absurd c1 (by decide))
    refine mw_steps X 2 (pc' := 10) (lv' := [(0, .int (nI 2))]) (st' := [.int (nI 3), .int (nI 2)]) rfl ?_
    refine mw_icmp_ge X 17 rfl rfl (fun c10 => absurd c10 (by decide)) (fun c10 => ?_)
    refine mw_steps X 2 (pc' := 27) (lv' := [(0, .int (nI 2))]) (st' := [.int (nI 4)]) rfl ?_
    exact mw_iret X rfl rfl (fun H h => ⟨rfl, h⟩)
  | 3, _ =>
    refine mw_steps X 1 (pc' := 1) (lv' := [(0, .int (nI 3))]) (st' := [.int (nI 3)]) rfl ?_
    refine mw_if_ne X 8 rfl rfl (fun c1 => ?_) (fun c1 => absurd c1 (by decide))
    refine mw_steps X 2 (pc' := 10) (lv' := [(0, .int (nI 3))]) (st' := [.int (nI 3), .int (nI 3)]) rfl ?_
    refine mw_icmp_ge X 17 rfl rfl (fun c10 => ?_) (fun c10 => absurd (by decide) c10)
    refine mw_steps X 2 (pc' := 19) (lv' := [(0, .int (nI 3))]) (st' := [.int (nI 3), .int (nI 3)]) rfl ?_
    refine mw_icmp_ne X 26 rfl rfl (fun c19 => absurd (by decide) c19) (fun c19 => ?_)
    refine mw_steps X 2 (pc' := 27) (lv' := [(0, .int (nI 3))]) (st' := [.int (nI 3)]) rfl ?_
    exact mw_iret X rfl rfl (fun H h => ⟨rfl, h⟩)
  | 4, _ =>
    refine mw_steps X 1 (pc' := 1) (lv' := [(0, .int (nI 4))]) (st' := [.int (nI 4)]) rfl ?_
    refine mw_if_ne X 8 rfl rfl (fun c1 => ?_) (fun c1 => absurd c1 (by decide))
    refine mw_steps X 2 (pc' := 10) (lv' := [(0, .int (nI 4))]) (st' := [.int (nI 3), .int (nI 4)]) rfl ?_
    refine mw_icmp_ge X 17 rfl rfl (fun c10 => ?_) (fun c10 => absurd (by decide) c10)
    refine mw_steps X 2 (pc' := 19) (lv' := [(0, .int (nI 4))]) (st' := [.int (nI 3), .int (nI 4)]) rfl ?_
    refine mw_icmp_ne X 26 rfl rfl (fun c19 => ?_) (fun c19 => absurd c19 (by decide))
    refine mw_steps X 1 (pc' := 27) (lv' := [(0, .int (nI 4))]) (st' := [.int (nI 2)]) rfl ?_
    exact mw_iret X rfl rfl (fun H h => ⟨rfl, h⟩)
  | 5, _ =>
    refine mw_steps X 1 (pc' := 1) (lv' := [(0, .int (nI 5))]) (st' := [.int (nI 5)]) rfl ?_
    refine mw_if_ne X 8 rfl rfl (fun c1 => ?_) (fun c1 => absurd c1 (by decide))
    refine mw_steps X 2 (pc' := 10) (lv' := [(0, .int (nI 5))]) (st' := [.int (nI 3), .int (nI 5)]) rfl ?_
    refine mw_icmp_ge X 17 rfl rfl (fun c10 => ?_) (fun c10 => absurd (by decide) c10)
    refine mw_steps X 2 (pc' := 19) (lv' := [(0, .int (nI 5))]) (st' := [.int (nI 3), .int (nI 5)]) rfl ?_
    refine mw_icmp_ne X 26 rfl rfl (fun c19 => ?_) (fun c19 => absurd c19 (by decide))
    refine mw_steps X 1 (pc' := 27) (lv' := [(0, .int (nI 5))]) (st' := [.int (nI 2)]) rfl ?_
    exact mw_iret X rfl rfl (fun H h => ⟨rfl, h⟩)
  | k + 6, hk => exact absurd hk (by omega)
set_option maxHeartbeats 4000000 in
set_option maxRecDepth 20000 in
theorem cm_send0 {l : Launch} {Γ : mw_C} {mb : Nat} (hmb : Γ.2.2.2 ≤ mb) {W : Nat → Int32} {ρ : md_R} {H : Heap} {p k r : Nat} {v : Int32} (hH : md_I Γ mb W ρ H) (hp : p < 5) (hk : k < 6) (hr : W 11 = nI r) (hr2 : r ≤ 24) : mw_Cr l Γ mX5_send 2 0 0 (md_A mb) [.ref mb, .int (nI 0), .int (nI p), .int (nI k), .int v] H none (md_I Γ mb (mo_send W 0 p k v) ρ) := by
  refine mw_ofG (P := pX5_send) (by decide) (md_As hmb) oX5_send (Nat.le_of_ble_eq_true rfl) ?_
  intro pg e0 sg mg below meth cd X hs
  refine mw_pre (I' := md_I Γ mb W ρ) (fun H1 h1 => by rw [h1]; exact hH) ?_
  refine mw_steps X 1 (pc' := 1) (lv' := [(0, .ref mb), (1, .int (nI 0)), (2, .int (nI p)), (3, .int (nI k)), (4, .int v)]) (st' := [.ref mb]) rfl ?_
  refine mw_get X kf_X5_7.fl kc_5 rfl (v := .ref (mb + 1)) (fun H h => ⟨_, h.1, rfl⟩) ?_
  refine mw_steps X 3 (pc' := 8) (lv' := [(0, .ref mb), (1, .int (nI 0)), (2, .int (nI p)), (3, .int (nI k)), (4, .int v)]) (st' := [.int ((nI 14) + (nI 0)), .ref (mb + 1)]) rfl ?_
  refine mw_iald X (v := W (14 + 0)) (14 + 0) (by simp only [nI_add, pk_mul]) rfl (fun H h => ⟨_, _, h.2.1, by omega, by decide, rfl⟩) ?_
  refine mw_steps X 2 (pc' := 12) (lv' := [(5, .int (W (14 + 0))), (0, .ref mb), (1, .int (nI 0)), (2, .int (nI p)), (3, .int (nI k)), (4, .int v)]) (st' := [.ref mb]) rfl ?_
  refine mw_get X kf_X5_7.fl kc_5 rfl (v := .ref (mb + 1)) (fun H h => ⟨_, h.1, rfl⟩) ?_
  refine mw_steps X 4 (pc' := 20) (lv' := [(5, .int (W (14 + 0))), (0, .ref mb), (1, .int (nI 0)), (2, .int (nI p)), (3, .int (nI k)), (4, .int v)]) (st' := [.int ((nI 14) + (nI 0)), .ref (mb + 1), .int ((nI 14) + (nI 0)), .ref (mb + 1)]) rfl ?_
  refine mw_iald X (v := W (14 + 0)) (14 + 0) (by simp only [nI_add, pk_mul]) rfl (fun H h => ⟨_, _, h.2.1, by omega, by decide, rfl⟩) ?_
  refine mw_steps X 2 (pc' := 23) (lv' := [(5, .int (W (14 + 0))), (0, .ref mb), (1, .int (nI 0)), (2, .int (nI p)), (3, .int (nI k)), (4, .int v)]) (st' := [.int ((W (14 + 0)) + (nI 1)), .int ((nI 14) + (nI 0)), .ref (mb + 1)]) rfl ?_
  refine mw_iast X (I1 := md_I Γ mb (upd W (14 + 0) ((W (14 + 0)) + (nI 1))) ρ) (14 + 0) (by simp only [nI_add, pk_mul]) rfl (fun H h => ⟨md_A1, _, _, h.2.1, by omega, by decide, fun H1 o c => h.stw o c⟩) ?_
  refine mw_steps X 1 (pc' := 25) (lv' := [(5, .int (W (14 + 0))), (0, .ref mb), (1, .int (nI 0)), (2, .int (nI p)), (3, .int (nI k)), (4, .int v)]) (st' := [.ref mb]) rfl ?_
  refine mw_get X kf_X5_7.fl kc_5 rfl (v := .ref (mb + 1)) (fun H h => ⟨_, h.1, rfl⟩) ?_
  refine mw_steps X 4 (pc' := 33) (lv' := [(5, .int (W (14 + 0))), (0, .ref mb), (1, .int (nI 0)), (2, .int (nI p)), (3, .int (nI k)), (4, .int v)]) (st' := [.int ((nI 42) + (nI p)), .ref (mb + 1), .int ((nI 42) + (nI p)), .ref (mb + 1)]) rfl ?_
  refine mw_iald X (v := W (42 + p)) (42 + p) (by simp only [nI_add, pk_mul]) rfl (fun H h => ⟨_, _, h.2.1, by omega, by decide, (by simp (disch := omega) only [pk_un])⟩) ?_
  refine mw_steps X 2 (pc' := 36) (lv' := [(5, .int (W (14 + 0))), (0, .ref mb), (1, .int (nI 0)), (2, .int (nI p)), (3, .int (nI k)), (4, .int v)]) (st' := [.int (nI 1), .int (nI 0), .int (W (42 + p)), .int ((nI 42) + (nI p)), .ref (mb + 1)]) rfl ?_
  refine mw_icmp_ne X 46 rfl rfl (fun c36 => ?_) (fun c36 => absurd c36 (by decide))
  refine mw_steps X 2 (pc' := 48) (lv' := [(5, .int (W (14 + 0))), (0, .ref mb), (1, .int (nI 0)), (2, .int (nI p)), (3, .int (nI k)), (4, .int v)]) (st' := [.int ((W (42 + p)) + (nI 0)), .int ((nI 42) + (nI p)), .ref (mb + 1)]) rfl ?_
  refine mw_iast X (I1 := md_I Γ mb (upd (upd W (14 + 0) ((W (14 + 0)) + (nI 1))) (42 + p) ((W (42 + p)) + (nI 0))) ρ) (42 + p) (by simp only [nI_add, pk_mul]) rfl (fun H h => ⟨md_A1, _, _, h.2.1, by omega, by decide, fun H1 o c => h.stw o c⟩) ?_
  refine mw_steps X 1 (pc' := 50) (lv' := [(5, .int (W (14 + 0))), (0, .ref mb), (1, .int (nI 0)), (2, .int (nI p)), (3, .int (nI k)), (4, .int v)]) (st' := [.ref mb]) rfl ?_
  refine mw_get X kf_X5_7.fl kc_5 rfl (v := .ref (mb + 1)) (fun H h => ⟨_, h.1, rfl⟩) ?_
  refine mw_steps X 1 (pc' := 55) (lv' := [(5, .int (W (14 + 0))), (0, .ref mb), (1, .int (nI 0)), (2, .int (nI p)), (3, .int (nI k)), (4, .int v)]) (st' := [.int (nI 11), .ref (mb + 1)]) rfl ?_
  refine mw_iald X (v := nI r) (11) rfl rfl (fun H h => ⟨_, _, h.2.1, by omega, by decide, (by simp (disch := omega) only [pk_un]; exact hr)⟩) ?_
  refine mw_steps X 1 (pc' := 58) (lv' := [(5, .int (W (14 + 0))), (0, .ref mb), (1, .int (nI 0)), (2, .int (nI p)), (3, .int (nI k)), (4, .int v)]) (st' := [.int (nI 24), .int (nI r)]) rfl ?_
  refine mw_icmp_ne X 73 rfl rfl (fun c58 => ?_) (fun c58 => ?_)
  · refine mw_steps X 3 (pc' := 79) (lv' := [(5, .int (W (14 + 0))), (0, .ref mb), (1, .int (nI 0)), (2, .int (nI p)), (3, .int (nI k)), (4, .int v)]) (st' := [.ref mb, .int (nI 6), .int (nI 327)]) rfl ?_
    refine mw_get X kf_X5_7.fl kc_5 rfl (v := .ref (mb + 1)) (fun H h => ⟨_, h.1, rfl⟩) ?_
    refine mw_steps X 1 (pc' := 84) (lv' := [(5, .int (W (14 + 0))), (0, .ref mb), (1, .int (nI 0)), (2, .int (nI p)), (3, .int (nI k)), (4, .int v)]) (st' := [.int (nI 11), .ref (mb + 1), .int (nI 6), .int (nI 327)]) rfl ?_
    refine mw_iald X (v := nI r) (11) rfl rfl (fun H h => ⟨_, _, h.2.1, by omega, by decide, (by simp (disch := omega) only [pk_un]; exact hr)⟩) ?_
    refine mw_steps X 4 (pc' := 90) (lv' := [(6, .int ((nI 327) + ((nI 6) * (nI r)))), (5, .int (W (14 + 0))), (0, .ref mb), (1, .int (nI 0)), (2, .int (nI p)), (3, .int (nI k)), (4, .int v)]) (st' := [.ref mb]) rfl ?_
    refine mw_get X kf_X5_7.fl kc_5 rfl (v := .ref (mb + 1)) (fun H h => ⟨_, h.1, rfl⟩) ?_
    refine mw_steps X 2 (pc' := 96) (lv' := [(6, .int ((nI 327) + ((nI 6) * (nI r)))), (5, .int (W (14 + 0))), (0, .ref mb), (1, .int (nI 0)), (2, .int (nI p)), (3, .int (nI k)), (4, .int v)]) (st' := [.int (nI 0), .int ((nI 327) + ((nI 6) * (nI r))), .ref (mb + 1)]) rfl ?_
    refine mw_iast X (I1 := md_I Γ mb (upd (upd (upd W (14 + 0) ((W (14 + 0)) + (nI 1))) (42 + p) ((W (42 + p)) + (nI 0))) (327 + 6 * r) (nI 0)) ρ) (327 + 6 * r) (by simp only [nI_add, pk_mul]) rfl (fun H h => ⟨md_A1, _, _, h.2.1, by omega, by decide, fun H1 o c => h.stw o c⟩) ?_
    refine mw_steps X 1 (pc' := 98) (lv' := [(6, .int ((nI 327) + ((nI 6) * (nI r)))), (5, .int (W (14 + 0))), (0, .ref mb), (1, .int (nI 0)), (2, .int (nI p)), (3, .int (nI k)), (4, .int v)]) (st' := [.ref mb]) rfl ?_
    refine mw_get X kf_X5_7.fl kc_5 rfl (v := .ref (mb + 1)) (fun H h => ⟨_, h.1, rfl⟩) ?_
    refine mw_steps X 4 (pc' := 106) (lv' := [(6, .int ((nI 327) + ((nI 6) * (nI r)))), (5, .int (W (14 + 0))), (0, .ref mb), (1, .int (nI 0)), (2, .int (nI p)), (3, .int (nI k)), (4, .int v)]) (st' := [.int (nI p), .int (((nI 327) + ((nI 6) * (nI r))) + (nI 1)), .ref (mb + 1)]) rfl ?_
    refine mw_iast X (I1 := md_I Γ mb (upd (upd (upd (upd W (14 + 0) ((W (14 + 0)) + (nI 1))) (42 + p) ((W (42 + p)) + (nI 0))) (327 + 6 * r) (nI 0)) (327 + 6 * r + 1) (nI p)) ρ) (327 + 6 * r + 1) (by simp only [nI_add, pk_mul]) rfl (fun H h => ⟨md_A1, _, _, h.2.1, by omega, by decide, fun H1 o c => h.stw o c⟩) ?_
    refine mw_steps X 1 (pc' := 108) (lv' := [(6, .int ((nI 327) + ((nI 6) * (nI r)))), (5, .int (W (14 + 0))), (0, .ref mb), (1, .int (nI 0)), (2, .int (nI p)), (3, .int (nI k)), (4, .int v)]) (st' := [.ref mb]) rfl ?_
    refine mw_get X kf_X5_7.fl kc_5 rfl (v := .ref (mb + 1)) (fun H h => ⟨_, h.1, rfl⟩) ?_
    refine mw_steps X 4 (pc' := 116) (lv' := [(6, .int ((nI 327) + ((nI 6) * (nI r)))), (5, .int (W (14 + 0))), (0, .ref mb), (1, .int (nI 0)), (2, .int (nI p)), (3, .int (nI k)), (4, .int v)]) (st' := [.int (nI 0), .int (((nI 327) + ((nI 6) * (nI r))) + (nI 2)), .ref (mb + 1)]) rfl ?_
    refine mw_if_ne X 131 rfl rfl (fun c116 => absurd (by decide) c116) (fun c116 => ?_)
    refine mw_steps X 1 (pc' := 120) (lv' := [(6, .int ((nI 327) + ((nI 6) * (nI r)))), (5, .int (W (14 + 0))), (0, .ref mb), (1, .int (nI 0)), (2, .int (nI p)), (3, .int (nI k)), (4, .int v)]) (st' := [.ref mb, .int (((nI 327) + ((nI 6) * (nI r))) + (nI 2)), .ref (mb + 1)]) rfl ?_
    refine mw_get X kf_X5_7.fl kc_5 rfl (v := .ref (mb + 1)) (fun H h => ⟨_, h.1, rfl⟩) ?_
    refine mw_steps X 3 (pc' := 127) (lv' := [(6, .int ((nI 327) + ((nI 6) * (nI r)))), (5, .int (W (14 + 0))), (0, .ref mb), (1, .int (nI 0)), (2, .int (nI p)), (3, .int (nI k)), (4, .int v)]) (st' := [.int ((nI 22) + (nI p)), .ref (mb + 1), .int (((nI 327) + ((nI 6) * (nI r))) + (nI 2)), .ref (mb + 1)]) rfl ?_
    refine mw_iald X (v := W (22 + p)) (22 + p) (by simp only [nI_add, pk_mul]) rfl (fun H h => ⟨_, _, h.2.1, by omega, by decide, (by simp (disch := omega) only [pk_un])⟩) ?_
    refine mw_steps X 1 (pc' := 132) (lv' := [(6, .int ((nI 327) + ((nI 6) * (nI r)))), (5, .int (W (14 + 0))), (0, .ref mb), (1, .int (nI 0)), (2, .int (nI p)), (3, .int (nI k)), (4, .int v)]) (st' := [.int (W (22 + p)), .int (((nI 327) + ((nI 6) * (nI r))) + (nI 2)), .ref (mb + 1)]) rfl ?_
    refine mw_iast X (I1 := md_I Γ mb (upd (upd (upd (upd (upd W (14 + 0) ((W (14 + 0)) + (nI 1))) (42 + p) ((W (42 + p)) + (nI 0))) (327 + 6 * r) (nI 0)) (327 + 6 * r + 1) (nI p)) (327 + 6 * r + 2) (W (22 + p))) ρ) (327 + 6 * r + 2) (by simp only [nI_add, pk_mul]) rfl (fun H h => ⟨md_A1, _, _, h.2.1, by omega, by decide, fun H1 o c => h.stw o c⟩) ?_
    refine mw_steps X 1 (pc' := 134) (lv' := [(6, .int ((nI 327) + ((nI 6) * (nI r)))), (5, .int (W (14 + 0))), (0, .ref mb), (1, .int (nI 0)), (2, .int (nI p)), (3, .int (nI k)), (4, .int v)]) (st' := [.ref mb]) rfl ?_
    refine mw_get X kf_X5_7.fl kc_5 rfl (v := .ref (mb + 1)) (fun H h => ⟨_, h.1, rfl⟩) ?_
    refine mw_steps X 4 (pc' := 143) (lv' := [(6, .int ((nI 327) + ((nI 6) * (nI r)))), (5, .int (W (14 + 0))), (0, .ref mb), (1, .int (nI 0)), (2, .int (nI p)), (3, .int (nI k)), (4, .int v)]) (st' := [.int (W (14 + 0)), .int (((nI 327) + ((nI 6) * (nI r))) + (nI 3)), .ref (mb + 1)]) rfl ?_
    refine mw_iast X (I1 := md_I Γ mb (upd (upd (upd (upd (upd (upd W (14 + 0) ((W (14 + 0)) + (nI 1))) (42 + p) ((W (42 + p)) + (nI 0))) (327 + 6 * r) (nI 0)) (327 + 6 * r + 1) (nI p)) (327 + 6 * r + 2) (W (22 + p))) (327 + 6 * r + 3) (W (14 + 0))) ρ) (327 + 6 * r + 3) (by simp only [nI_add, pk_mul]) rfl (fun H h => ⟨md_A1, _, _, h.2.1, by omega, by decide, fun H1 o c => h.stw o c⟩) ?_
    refine mw_steps X 1 (pc' := 145) (lv' := [(6, .int ((nI 327) + ((nI 6) * (nI r)))), (5, .int (W (14 + 0))), (0, .ref mb), (1, .int (nI 0)), (2, .int (nI p)), (3, .int (nI k)), (4, .int v)]) (st' := [.ref mb]) rfl ?_
    refine mw_get X kf_X5_7.fl kc_5 rfl (v := .ref (mb + 1)) (fun H h => ⟨_, h.1, rfl⟩) ?_
    refine mw_steps X 4 (pc' := 153) (lv' := [(6, .int ((nI 327) + ((nI 6) * (nI r)))), (5, .int (W (14 + 0))), (0, .ref mb), (1, .int (nI 0)), (2, .int (nI p)), (3, .int (nI k)), (4, .int v)]) (st' := [.int (nI k), .int (((nI 327) + ((nI 6) * (nI r))) + (nI 4)), .ref (mb + 1)]) rfl ?_
    refine mw_iast X (I1 := md_I Γ mb (upd (upd (upd (upd (upd (upd (upd W (14 + 0) ((W (14 + 0)) + (nI 1))) (42 + p) ((W (42 + p)) + (nI 0))) (327 + 6 * r) (nI 0)) (327 + 6 * r + 1) (nI p)) (327 + 6 * r + 2) (W (22 + p))) (327 + 6 * r + 3) (W (14 + 0))) (327 + 6 * r + 4) (nI k)) ρ) (327 + 6 * r + 4) (by simp only [nI_add, pk_mul]) rfl (fun H h => ⟨md_A1, _, _, h.2.1, by omega, by decide, fun H1 o c => h.stw o c⟩) ?_
    refine mw_steps X 1 (pc' := 155) (lv' := [(6, .int ((nI 327) + ((nI 6) * (nI r)))), (5, .int (W (14 + 0))), (0, .ref mb), (1, .int (nI 0)), (2, .int (nI p)), (3, .int (nI k)), (4, .int v)]) (st' := [.ref mb]) rfl ?_
    refine mw_get X kf_X5_7.fl kc_5 rfl (v := .ref (mb + 1)) (fun H h => ⟨_, h.1, rfl⟩) ?_
    refine mw_steps X 4 (pc' := 164) (lv' := [(6, .int ((nI 327) + ((nI 6) * (nI r)))), (5, .int (W (14 + 0))), (0, .ref mb), (1, .int (nI 0)), (2, .int (nI p)), (3, .int (nI k)), (4, .int v)]) (st' := [.int v, .int (((nI 327) + ((nI 6) * (nI r))) + (nI 5)), .ref (mb + 1)]) rfl ?_
    refine mw_iast X (I1 := md_I Γ mb (upd (upd (upd (upd (upd (upd (upd (upd W (14 + 0) ((W (14 + 0)) + (nI 1))) (42 + p) ((W (42 + p)) + (nI 0))) (327 + 6 * r) (nI 0)) (327 + 6 * r + 1) (nI p)) (327 + 6 * r + 2) (W (22 + p))) (327 + 6 * r + 3) (W (14 + 0))) (327 + 6 * r + 4) (nI k)) (327 + 6 * r + 5) v) ρ) (327 + 6 * r + 5) (by simp only [nI_add, pk_mul]) rfl (fun H h => ⟨md_A1, _, _, h.2.1, by omega, by decide, fun H1 o c => h.stw o c⟩) ?_
    refine mw_steps X 1 (pc' := 166) (lv' := [(6, .int ((nI 327) + ((nI 6) * (nI r)))), (5, .int (W (14 + 0))), (0, .ref mb), (1, .int (nI 0)), (2, .int (nI p)), (3, .int (nI k)), (4, .int v)]) (st' := [.ref mb]) rfl ?_
    refine mw_get X kf_X5_7.fl kc_5 rfl (v := .ref (mb + 1)) (fun H h => ⟨_, h.1, rfl⟩) ?_
    refine mw_steps X 2 (pc' := 172) (lv' := [(6, .int ((nI 327) + ((nI 6) * (nI r)))), (5, .int (W (14 + 0))), (0, .ref mb), (1, .int (nI 0)), (2, .int (nI p)), (3, .int (nI k)), (4, .int v)]) (st' := [.int (nI 11), .ref (mb + 1), .int (nI 11), .ref (mb + 1)]) rfl ?_
    refine mw_iald X (v := nI r) (11) rfl rfl (fun H h => ⟨_, _, h.2.1, by omega, by decide, (by simp (disch := omega) only [pk_un]; exact hr)⟩) ?_
    refine mw_steps X 2 (pc' := 175) (lv' := [(6, .int ((nI 327) + ((nI 6) * (nI r)))), (5, .int (W (14 + 0))), (0, .ref mb), (1, .int (nI 0)), (2, .int (nI p)), (3, .int (nI k)), (4, .int v)]) (st' := [.int ((nI r) + (nI 1)), .int (nI 11), .ref (mb + 1)]) rfl ?_
    refine mw_iast X (I1 := md_I Γ mb (upd (upd (upd (upd (upd (upd (upd (upd (upd W (14 + 0) ((W (14 + 0)) + (nI 1))) (42 + p) ((W (42 + p)) + (nI 0))) (327 + 6 * r) (nI 0)) (327 + 6 * r + 1) (nI p)) (327 + 6 * r + 2) (W (22 + p))) (327 + 6 * r + 3) (W (14 + 0))) (327 + 6 * r + 4) (nI k)) (327 + 6 * r + 5) v) (11) ((nI r) + (nI 1))) ρ) (11) rfl rfl (fun H h => ⟨md_A1, _, _, h.2.1, by omega, by decide, fun H1 o c => h.stw o c⟩) ?_
    refine mw_vret X rfl rfl (fun H h => ⟨rfl, (show mo_send W 0 p k v = upd (upd (upd (upd (upd (upd (upd (upd (upd W (14 + 0) ((W (14 + 0)) + (nI 1))) (42 + p) ((W (42 + p)) + (nI 0))) (327 + 6 * r) (nI 0)) (327 + 6 * r + 1) (nI p)) (327 + 6 * r + 2) (W (22 + p))) (327 + 6 * r + 3) (W (14 + 0))) (327 + 6 * r + 4) (nI k)) (327 + 6 * r + 5) v) (11) ((nI r) + (nI 1)) from ?_) ▸ h⟩)
    first | exact ml_send0_full (by rw [hr]; assumption) | exact ml_send0_add hr hr2 (by assumption)
  · refine mw_steps X 1 (pc' := 62) (lv' := [(5, .int (W (14 + 0))), (0, .ref mb), (1, .int (nI 0)), (2, .int (nI p)), (3, .int (nI k)), (4, .int v)]) (st' := [.ref mb]) rfl ?_
    refine mw_get X kf_X5_7.fl kc_5 rfl (v := .ref (mb + 1)) (fun H h => ⟨_, h.1, rfl⟩) ?_
    refine mw_steps X 2 (pc' := 68) (lv' := [(5, .int (W (14 + 0))), (0, .ref mb), (1, .int (nI 0)), (2, .int (nI p)), (3, .int (nI k)), (4, .int v)]) (st' := [.int (nI 10), .ref (mb + 1), .int (nI 10), .ref (mb + 1)]) rfl ?_
    refine mw_iald X (v := W (10)) (10) rfl rfl (fun H h => ⟨_, _, h.2.1, by omega, by decide, (by simp (disch := omega) only [pk_un])⟩) ?_
    refine mw_steps X 2 (pc' := 71) (lv' := [(5, .int (W (14 + 0))), (0, .ref mb), (1, .int (nI 0)), (2, .int (nI p)), (3, .int (nI k)), (4, .int v)]) (st' := [.int ((W (10)) + (nI 1)), .int (nI 10), .ref (mb + 1)]) rfl ?_
    refine mw_iast X (I1 := md_I Γ mb (upd (upd (upd W (14 + 0) ((W (14 + 0)) + (nI 1))) (42 + p) ((W (42 + p)) + (nI 0))) (10) ((W (10)) + (nI 1))) ρ) (10) rfl rfl (fun H h => ⟨md_A1, _, _, h.2.1, by omega, by decide, fun H1 o c => h.stw o c⟩) ?_
    refine mw_vret X rfl rfl (fun H h => ⟨rfl, (show mo_send W 0 p k v = upd (upd (upd W (14 + 0) ((W (14 + 0)) + (nI 1))) (42 + p) ((W (42 + p)) + (nI 0))) (10) ((W (10)) + (nI 1)) from ?_) ▸ h⟩)
    first | exact ml_send0_full (by rw [hr]; assumption) | exact ml_send0_add hr hr2 (by assumption)
set_option maxHeartbeats 4000000 in
set_option maxRecDepth 20000 in
theorem cm_send1 {l : Launch} {Γ : mw_C} {mb : Nat} (hmb : Γ.2.2.2 ≤ mb) {W : Nat → Int32} {ρ : md_R} {H : Heap} {p k r : Nat} {v : Int32} (hH : md_I Γ mb W ρ H) (hp : p < 5) (hk : k < 6) (hr : W 11 = nI r) (hr2 : r ≤ 24) : mw_Cr l Γ mX5_send 2 0 0 (md_A mb) [.ref mb, .int (nI 1), .int (nI p), .int (nI k), .int v] H none (md_I Γ mb (mo_send W 1 p k v) ρ) := by
  refine mw_ofG (P := pX5_send) (by decide) (md_As hmb) oX5_send (Nat.le_of_ble_eq_true rfl) ?_
  intro pg e0 sg mg below meth cd X hs
  refine mw_pre (I' := md_I Γ mb W ρ) (fun H1 h1 => by rw [h1]; exact hH) ?_
  refine mw_steps X 1 (pc' := 1) (lv' := [(0, .ref mb), (1, .int (nI 1)), (2, .int (nI p)), (3, .int (nI k)), (4, .int v)]) (st' := [.ref mb]) rfl ?_
  refine mw_get X kf_X5_7.fl kc_5 rfl (v := .ref (mb + 1)) (fun H h => ⟨_, h.1, rfl⟩) ?_
  refine mw_steps X 3 (pc' := 8) (lv' := [(0, .ref mb), (1, .int (nI 1)), (2, .int (nI p)), (3, .int (nI k)), (4, .int v)]) (st' := [.int ((nI 14) + (nI 1)), .ref (mb + 1)]) rfl ?_
  refine mw_iald X (v := W (14 + 1)) (14 + 1) (by simp only [nI_add, pk_mul]) rfl (fun H h => ⟨_, _, h.2.1, by omega, by decide, rfl⟩) ?_
  refine mw_steps X 2 (pc' := 12) (lv' := [(5, .int (W (14 + 1))), (0, .ref mb), (1, .int (nI 1)), (2, .int (nI p)), (3, .int (nI k)), (4, .int v)]) (st' := [.ref mb]) rfl ?_
  refine mw_get X kf_X5_7.fl kc_5 rfl (v := .ref (mb + 1)) (fun H h => ⟨_, h.1, rfl⟩) ?_
  refine mw_steps X 4 (pc' := 20) (lv' := [(5, .int (W (14 + 1))), (0, .ref mb), (1, .int (nI 1)), (2, .int (nI p)), (3, .int (nI k)), (4, .int v)]) (st' := [.int ((nI 14) + (nI 1)), .ref (mb + 1), .int ((nI 14) + (nI 1)), .ref (mb + 1)]) rfl ?_
  refine mw_iald X (v := W (14 + 1)) (14 + 1) (by simp only [nI_add, pk_mul]) rfl (fun H h => ⟨_, _, h.2.1, by omega, by decide, rfl⟩) ?_
  refine mw_steps X 2 (pc' := 23) (lv' := [(5, .int (W (14 + 1))), (0, .ref mb), (1, .int (nI 1)), (2, .int (nI p)), (3, .int (nI k)), (4, .int v)]) (st' := [.int ((W (14 + 1)) + (nI 1)), .int ((nI 14) + (nI 1)), .ref (mb + 1)]) rfl ?_
  refine mw_iast X (I1 := md_I Γ mb (upd W (14 + 1) ((W (14 + 1)) + (nI 1))) ρ) (14 + 1) (by simp only [nI_add, pk_mul]) rfl (fun H h => ⟨md_A1, _, _, h.2.1, by omega, by decide, fun H1 o c => h.stw o c⟩) ?_
  refine mw_steps X 1 (pc' := 25) (lv' := [(5, .int (W (14 + 1))), (0, .ref mb), (1, .int (nI 1)), (2, .int (nI p)), (3, .int (nI k)), (4, .int v)]) (st' := [.ref mb]) rfl ?_
  refine mw_get X kf_X5_7.fl kc_5 rfl (v := .ref (mb + 1)) (fun H h => ⟨_, h.1, rfl⟩) ?_
  refine mw_steps X 4 (pc' := 33) (lv' := [(5, .int (W (14 + 1))), (0, .ref mb), (1, .int (nI 1)), (2, .int (nI p)), (3, .int (nI k)), (4, .int v)]) (st' := [.int ((nI 42) + (nI p)), .ref (mb + 1), .int ((nI 42) + (nI p)), .ref (mb + 1)]) rfl ?_
  refine mw_iald X (v := W (42 + p)) (42 + p) (by simp only [nI_add, pk_mul]) rfl (fun H h => ⟨_, _, h.2.1, by omega, by decide, (by simp (disch := omega) only [pk_un])⟩) ?_
  refine mw_steps X 2 (pc' := 36) (lv' := [(5, .int (W (14 + 1))), (0, .ref mb), (1, .int (nI 1)), (2, .int (nI p)), (3, .int (nI k)), (4, .int v)]) (st' := [.int (nI 1), .int (nI 1), .int (W (42 + p)), .int ((nI 42) + (nI p)), .ref (mb + 1)]) rfl ?_
  refine mw_icmp_ne X 46 rfl rfl (fun c36 => absurd (by decide) c36) (fun c36 => ?_)
  refine mw_steps X 1 (pc' := 40) (lv' := [(5, .int (W (14 + 1))), (0, .ref mb), (1, .int (nI 1)), (2, .int (nI p)), (3, .int (nI k)), (4, .int v)]) (st' := [.int (nI k), .int (W (42 + p)), .int ((nI 42) + (nI p)), .ref (mb + 1)]) rfl ?_
  refine mw_cS1r X kd_X5_sizeOf ks_X5_sizeOf kl_X5_25 rfl (Nat.le_of_ble_eq_true rfl) ⟨Nat.le_of_ble_eq_true rfl, Nat.le_of_ble_eq_true rfl⟩ ⟨Nat.le_of_ble_eq_true rfl, Nat.le_of_ble_eq_true rfl⟩ (fun _ h => h) (fun H h => cm_sizeOf hmb hk h) ?_
  refine mw_steps X 2 (pc' := 48) (lv' := [(5, .int (W (14 + 1))), (0, .ref mb), (1, .int (nI 1)), (2, .int (nI p)), (3, .int (nI k)), (4, .int v)]) (st' := [.int ((W (42 + p)) + (mw_sz k)), .int ((nI 42) + (nI p)), .ref (mb + 1)]) rfl ?_
  refine mw_iast X (I1 := md_I Γ mb (upd (upd W (14 + 1) ((W (14 + 1)) + (nI 1))) (42 + p) ((W (42 + p)) + (mw_sz k))) ρ) (42 + p) (by simp only [nI_add, pk_mul]) rfl (fun H h => ⟨md_A1, _, _, h.2.1, by omega, by decide, fun H1 o c => h.stw o c⟩) ?_
  refine mw_steps X 1 (pc' := 50) (lv' := [(5, .int (W (14 + 1))), (0, .ref mb), (1, .int (nI 1)), (2, .int (nI p)), (3, .int (nI k)), (4, .int v)]) (st' := [.ref mb]) rfl ?_
  refine mw_get X kf_X5_7.fl kc_5 rfl (v := .ref (mb + 1)) (fun H h => ⟨_, h.1, rfl⟩) ?_
  refine mw_steps X 1 (pc' := 55) (lv' := [(5, .int (W (14 + 1))), (0, .ref mb), (1, .int (nI 1)), (2, .int (nI p)), (3, .int (nI k)), (4, .int v)]) (st' := [.int (nI 11), .ref (mb + 1)]) rfl ?_
  refine mw_iald X (v := nI r) (11) rfl rfl (fun H h => ⟨_, _, h.2.1, by omega, by decide, (by simp (disch := omega) only [pk_un]; exact hr)⟩) ?_
  refine mw_steps X 1 (pc' := 58) (lv' := [(5, .int (W (14 + 1))), (0, .ref mb), (1, .int (nI 1)), (2, .int (nI p)), (3, .int (nI k)), (4, .int v)]) (st' := [.int (nI 24), .int (nI r)]) rfl ?_
  refine mw_icmp_ne X 73 rfl rfl (fun c58 => ?_) (fun c58 => ?_)
  · refine mw_steps X 3 (pc' := 79) (lv' := [(5, .int (W (14 + 1))), (0, .ref mb), (1, .int (nI 1)), (2, .int (nI p)), (3, .int (nI k)), (4, .int v)]) (st' := [.ref mb, .int (nI 6), .int (nI 327)]) rfl ?_
    refine mw_get X kf_X5_7.fl kc_5 rfl (v := .ref (mb + 1)) (fun H h => ⟨_, h.1, rfl⟩) ?_
    refine mw_steps X 1 (pc' := 84) (lv' := [(5, .int (W (14 + 1))), (0, .ref mb), (1, .int (nI 1)), (2, .int (nI p)), (3, .int (nI k)), (4, .int v)]) (st' := [.int (nI 11), .ref (mb + 1), .int (nI 6), .int (nI 327)]) rfl ?_
    refine mw_iald X (v := nI r) (11) rfl rfl (fun H h => ⟨_, _, h.2.1, by omega, by decide, (by simp (disch := omega) only [pk_un]; exact hr)⟩) ?_
    refine mw_steps X 4 (pc' := 90) (lv' := [(6, .int ((nI 327) + ((nI 6) * (nI r)))), (5, .int (W (14 + 1))), (0, .ref mb), (1, .int (nI 1)), (2, .int (nI p)), (3, .int (nI k)), (4, .int v)]) (st' := [.ref mb]) rfl ?_
    refine mw_get X kf_X5_7.fl kc_5 rfl (v := .ref (mb + 1)) (fun H h => ⟨_, h.1, rfl⟩) ?_
    refine mw_steps X 2 (pc' := 96) (lv' := [(6, .int ((nI 327) + ((nI 6) * (nI r)))), (5, .int (W (14 + 1))), (0, .ref mb), (1, .int (nI 1)), (2, .int (nI p)), (3, .int (nI k)), (4, .int v)]) (st' := [.int (nI 1), .int ((nI 327) + ((nI 6) * (nI r))), .ref (mb + 1)]) rfl ?_
    refine mw_iast X (I1 := md_I Γ mb (upd (upd (upd W (14 + 1) ((W (14 + 1)) + (nI 1))) (42 + p) ((W (42 + p)) + (mw_sz k))) (327 + 6 * r) (nI 1)) ρ) (327 + 6 * r) (by simp only [nI_add, pk_mul]) rfl (fun H h => ⟨md_A1, _, _, h.2.1, by omega, by decide, fun H1 o c => h.stw o c⟩) ?_
    refine mw_steps X 1 (pc' := 98) (lv' := [(6, .int ((nI 327) + ((nI 6) * (nI r)))), (5, .int (W (14 + 1))), (0, .ref mb), (1, .int (nI 1)), (2, .int (nI p)), (3, .int (nI k)), (4, .int v)]) (st' := [.ref mb]) rfl ?_
    refine mw_get X kf_X5_7.fl kc_5 rfl (v := .ref (mb + 1)) (fun H h => ⟨_, h.1, rfl⟩) ?_
    refine mw_steps X 4 (pc' := 106) (lv' := [(6, .int ((nI 327) + ((nI 6) * (nI r)))), (5, .int (W (14 + 1))), (0, .ref mb), (1, .int (nI 1)), (2, .int (nI p)), (3, .int (nI k)), (4, .int v)]) (st' := [.int (nI p), .int (((nI 327) + ((nI 6) * (nI r))) + (nI 1)), .ref (mb + 1)]) rfl ?_
    refine mw_iast X (I1 := md_I Γ mb (upd (upd (upd (upd W (14 + 1) ((W (14 + 1)) + (nI 1))) (42 + p) ((W (42 + p)) + (mw_sz k))) (327 + 6 * r) (nI 1)) (327 + 6 * r + 1) (nI p)) ρ) (327 + 6 * r + 1) (by simp only [nI_add, pk_mul]) rfl (fun H h => ⟨md_A1, _, _, h.2.1, by omega, by decide, fun H1 o c => h.stw o c⟩) ?_
    refine mw_steps X 1 (pc' := 108) (lv' := [(6, .int ((nI 327) + ((nI 6) * (nI r)))), (5, .int (W (14 + 1))), (0, .ref mb), (1, .int (nI 1)), (2, .int (nI p)), (3, .int (nI k)), (4, .int v)]) (st' := [.ref mb]) rfl ?_
    refine mw_get X kf_X5_7.fl kc_5 rfl (v := .ref (mb + 1)) (fun H h => ⟨_, h.1, rfl⟩) ?_
    refine mw_steps X 4 (pc' := 116) (lv' := [(6, .int ((nI 327) + ((nI 6) * (nI r)))), (5, .int (W (14 + 1))), (0, .ref mb), (1, .int (nI 1)), (2, .int (nI p)), (3, .int (nI k)), (4, .int v)]) (st' := [.int (nI 1), .int (((nI 327) + ((nI 6) * (nI r))) + (nI 2)), .ref (mb + 1)]) rfl ?_
    refine mw_if_ne X 131 rfl rfl (fun c116 => ?_) (fun c116 => absurd c116 (by decide))
    refine mw_steps X 1 (pc' := 132) (lv' := [(6, .int ((nI 327) + ((nI 6) * (nI r)))), (5, .int (W (14 + 1))), (0, .ref mb), (1, .int (nI 1)), (2, .int (nI p)), (3, .int (nI k)), (4, .int v)]) (st' := [.int (-1), .int (((nI 327) + ((nI 6) * (nI r))) + (nI 2)), .ref (mb + 1)]) rfl ?_
    refine mw_iast X (I1 := md_I Γ mb (upd (upd (upd (upd (upd W (14 + 1) ((W (14 + 1)) + (nI 1))) (42 + p) ((W (42 + p)) + (mw_sz k))) (327 + 6 * r) (nI 1)) (327 + 6 * r + 1) (nI p)) (327 + 6 * r + 2) (-1)) ρ) (327 + 6 * r + 2) (by simp only [nI_add, pk_mul]) rfl (fun H h => ⟨md_A1, _, _, h.2.1, by omega, by decide, fun H1 o c => h.stw o c⟩) ?_
    refine mw_steps X 1 (pc' := 134) (lv' := [(6, .int ((nI 327) + ((nI 6) * (nI r)))), (5, .int (W (14 + 1))), (0, .ref mb), (1, .int (nI 1)), (2, .int (nI p)), (3, .int (nI k)), (4, .int v)]) (st' := [.ref mb]) rfl ?_
    refine mw_get X kf_X5_7.fl kc_5 rfl (v := .ref (mb + 1)) (fun H h => ⟨_, h.1, rfl⟩) ?_
    refine mw_steps X 4 (pc' := 143) (lv' := [(6, .int ((nI 327) + ((nI 6) * (nI r)))), (5, .int (W (14 + 1))), (0, .ref mb), (1, .int (nI 1)), (2, .int (nI p)), (3, .int (nI k)), (4, .int v)]) (st' := [.int (W (14 + 1)), .int (((nI 327) + ((nI 6) * (nI r))) + (nI 3)), .ref (mb + 1)]) rfl ?_
    refine mw_iast X (I1 := md_I Γ mb (upd (upd (upd (upd (upd (upd W (14 + 1) ((W (14 + 1)) + (nI 1))) (42 + p) ((W (42 + p)) + (mw_sz k))) (327 + 6 * r) (nI 1)) (327 + 6 * r + 1) (nI p)) (327 + 6 * r + 2) (-1)) (327 + 6 * r + 3) (W (14 + 1))) ρ) (327 + 6 * r + 3) (by simp only [nI_add, pk_mul]) rfl (fun H h => ⟨md_A1, _, _, h.2.1, by omega, by decide, fun H1 o c => h.stw o c⟩) ?_
    refine mw_steps X 1 (pc' := 145) (lv' := [(6, .int ((nI 327) + ((nI 6) * (nI r)))), (5, .int (W (14 + 1))), (0, .ref mb), (1, .int (nI 1)), (2, .int (nI p)), (3, .int (nI k)), (4, .int v)]) (st' := [.ref mb]) rfl ?_
    refine mw_get X kf_X5_7.fl kc_5 rfl (v := .ref (mb + 1)) (fun H h => ⟨_, h.1, rfl⟩) ?_
    refine mw_steps X 4 (pc' := 153) (lv' := [(6, .int ((nI 327) + ((nI 6) * (nI r)))), (5, .int (W (14 + 1))), (0, .ref mb), (1, .int (nI 1)), (2, .int (nI p)), (3, .int (nI k)), (4, .int v)]) (st' := [.int (nI k), .int (((nI 327) + ((nI 6) * (nI r))) + (nI 4)), .ref (mb + 1)]) rfl ?_
    refine mw_iast X (I1 := md_I Γ mb (upd (upd (upd (upd (upd (upd (upd W (14 + 1) ((W (14 + 1)) + (nI 1))) (42 + p) ((W (42 + p)) + (mw_sz k))) (327 + 6 * r) (nI 1)) (327 + 6 * r + 1) (nI p)) (327 + 6 * r + 2) (-1)) (327 + 6 * r + 3) (W (14 + 1))) (327 + 6 * r + 4) (nI k)) ρ) (327 + 6 * r + 4) (by simp only [nI_add, pk_mul]) rfl (fun H h => ⟨md_A1, _, _, h.2.1, by omega, by decide, fun H1 o c => h.stw o c⟩) ?_
    refine mw_steps X 1 (pc' := 155) (lv' := [(6, .int ((nI 327) + ((nI 6) * (nI r)))), (5, .int (W (14 + 1))), (0, .ref mb), (1, .int (nI 1)), (2, .int (nI p)), (3, .int (nI k)), (4, .int v)]) (st' := [.ref mb]) rfl ?_
    refine mw_get X kf_X5_7.fl kc_5 rfl (v := .ref (mb + 1)) (fun H h => ⟨_, h.1, rfl⟩) ?_
    refine mw_steps X 4 (pc' := 164) (lv' := [(6, .int ((nI 327) + ((nI 6) * (nI r)))), (5, .int (W (14 + 1))), (0, .ref mb), (1, .int (nI 1)), (2, .int (nI p)), (3, .int (nI k)), (4, .int v)]) (st' := [.int v, .int (((nI 327) + ((nI 6) * (nI r))) + (nI 5)), .ref (mb + 1)]) rfl ?_
    refine mw_iast X (I1 := md_I Γ mb (upd (upd (upd (upd (upd (upd (upd (upd W (14 + 1) ((W (14 + 1)) + (nI 1))) (42 + p) ((W (42 + p)) + (mw_sz k))) (327 + 6 * r) (nI 1)) (327 + 6 * r + 1) (nI p)) (327 + 6 * r + 2) (-1)) (327 + 6 * r + 3) (W (14 + 1))) (327 + 6 * r + 4) (nI k)) (327 + 6 * r + 5) v) ρ) (327 + 6 * r + 5) (by simp only [nI_add, pk_mul]) rfl (fun H h => ⟨md_A1, _, _, h.2.1, by omega, by decide, fun H1 o c => h.stw o c⟩) ?_
    refine mw_steps X 1 (pc' := 166) (lv' := [(6, .int ((nI 327) + ((nI 6) * (nI r)))), (5, .int (W (14 + 1))), (0, .ref mb), (1, .int (nI 1)), (2, .int (nI p)), (3, .int (nI k)), (4, .int v)]) (st' := [.ref mb]) rfl ?_
    refine mw_get X kf_X5_7.fl kc_5 rfl (v := .ref (mb + 1)) (fun H h => ⟨_, h.1, rfl⟩) ?_
    refine mw_steps X 2 (pc' := 172) (lv' := [(6, .int ((nI 327) + ((nI 6) * (nI r)))), (5, .int (W (14 + 1))), (0, .ref mb), (1, .int (nI 1)), (2, .int (nI p)), (3, .int (nI k)), (4, .int v)]) (st' := [.int (nI 11), .ref (mb + 1), .int (nI 11), .ref (mb + 1)]) rfl ?_
    refine mw_iald X (v := nI r) (11) rfl rfl (fun H h => ⟨_, _, h.2.1, by omega, by decide, (by simp (disch := omega) only [pk_un]; exact hr)⟩) ?_
    refine mw_steps X 2 (pc' := 175) (lv' := [(6, .int ((nI 327) + ((nI 6) * (nI r)))), (5, .int (W (14 + 1))), (0, .ref mb), (1, .int (nI 1)), (2, .int (nI p)), (3, .int (nI k)), (4, .int v)]) (st' := [.int ((nI r) + (nI 1)), .int (nI 11), .ref (mb + 1)]) rfl ?_
    refine mw_iast X (I1 := md_I Γ mb (upd (upd (upd (upd (upd (upd (upd (upd (upd W (14 + 1) ((W (14 + 1)) + (nI 1))) (42 + p) ((W (42 + p)) + (mw_sz k))) (327 + 6 * r) (nI 1)) (327 + 6 * r + 1) (nI p)) (327 + 6 * r + 2) (-1)) (327 + 6 * r + 3) (W (14 + 1))) (327 + 6 * r + 4) (nI k)) (327 + 6 * r + 5) v) (11) ((nI r) + (nI 1))) ρ) (11) rfl rfl (fun H h => ⟨md_A1, _, _, h.2.1, by omega, by decide, fun H1 o c => h.stw o c⟩) ?_
    refine mw_vret X rfl rfl (fun H h => ⟨rfl, (show mo_send W 1 p k v = upd (upd (upd (upd (upd (upd (upd (upd (upd W (14 + 1) ((W (14 + 1)) + (nI 1))) (42 + p) ((W (42 + p)) + (mw_sz k))) (327 + 6 * r) (nI 1)) (327 + 6 * r + 1) (nI p)) (327 + 6 * r + 2) (-1)) (327 + 6 * r + 3) (W (14 + 1))) (327 + 6 * r + 4) (nI k)) (327 + 6 * r + 5) v) (11) ((nI r) + (nI 1)) from ?_) ▸ h⟩)
    first | exact ml_send1_full (by rw [hr]; assumption) | exact ml_send1_add hr hr2 (by assumption)
  · refine mw_steps X 1 (pc' := 62) (lv' := [(5, .int (W (14 + 1))), (0, .ref mb), (1, .int (nI 1)), (2, .int (nI p)), (3, .int (nI k)), (4, .int v)]) (st' := [.ref mb]) rfl ?_
    refine mw_get X kf_X5_7.fl kc_5 rfl (v := .ref (mb + 1)) (fun H h => ⟨_, h.1, rfl⟩) ?_
    refine mw_steps X 2 (pc' := 68) (lv' := [(5, .int (W (14 + 1))), (0, .ref mb), (1, .int (nI 1)), (2, .int (nI p)), (3, .int (nI k)), (4, .int v)]) (st' := [.int (nI 10), .ref (mb + 1), .int (nI 10), .ref (mb + 1)]) rfl ?_
    refine mw_iald X (v := W (10)) (10) rfl rfl (fun H h => ⟨_, _, h.2.1, by omega, by decide, (by simp (disch := omega) only [pk_un])⟩) ?_
    refine mw_steps X 2 (pc' := 71) (lv' := [(5, .int (W (14 + 1))), (0, .ref mb), (1, .int (nI 1)), (2, .int (nI p)), (3, .int (nI k)), (4, .int v)]) (st' := [.int ((W (10)) + (nI 1)), .int (nI 10), .ref (mb + 1)]) rfl ?_
    refine mw_iast X (I1 := md_I Γ mb (upd (upd (upd W (14 + 1) ((W (14 + 1)) + (nI 1))) (42 + p) ((W (42 + p)) + (mw_sz k))) (10) ((W (10)) + (nI 1))) ρ) (10) rfl rfl (fun H h => ⟨md_A1, _, _, h.2.1, by omega, by decide, fun H1 o c => h.stw o c⟩) ?_
    refine mw_vret X rfl rfl (fun H h => ⟨rfl, (show mo_send W 1 p k v = upd (upd (upd W (14 + 1) ((W (14 + 1)) + (nI 1))) (42 + p) ((W (42 + p)) + (mw_sz k))) (10) ((W (10)) + (nI 1)) from ?_) ▸ h⟩)
    first | exact ml_send1_full (by rw [hr]; assumption) | exact ml_send1_add hr hr2 (by assumption)
