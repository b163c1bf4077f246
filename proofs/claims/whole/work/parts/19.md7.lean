set_option maxHeartbeats 4000000 in
set_option maxRecDepth 20000 in
theorem cm_tickNow {l : Launch} {Γ : mw_C} {mb : Nat} (hmb : Γ.2.2.2 ≤ mb) {W : Nat → Int32} {ρ : md_R} {H : Heap} {c : Nat} (hH : md_I Γ mb W ρ H) (hv : iv (c + 12) W) : mw_Cr l Γ mX5_tickNow 8 0 0 (md_A mb) [.ref mb] H (some (.int (mo_tick W 13))) (md_I Γ mb (mo_tick W) ρ) := by
  obtain ⟨W0, hW0⟩ : ∃ W0, W0 = upd W 0 (W 0 + nI 1) := ⟨_, rfl⟩
  have hi0 : iv (c + 12) W0 := by rw [hW0]; exact hv.free (fun j a => pk_un (by omega))
  have h13 : W0 13 = W 13 := by rw [hW0, pk_un (by omega)]
  have hn := ml_i13 hi0.1
  have hn2 := ml_n6 hi0.1
  refine mw_ofG (P := pX5_tickNow) (by decide) (md_As hmb) oX5_tickNow (Nat.le_of_ble_eq_true rfl) ?_
  intro pg e0 sg mg below meth cd X hs
  refine mw_pre (I' := md_I Γ mb W ρ) (fun H1 h1 => by rw [h1]; exact hH) ?_
  refine mw_steps X 1 (pc' := 1) (lv' := [(0, .ref mb)]) (st' := [.ref mb]) rfl ?_
  refine mw_get X kf_X5_7.fl kc_5 rfl (v := .ref (mb + 1)) (fun H h => ⟨_, h.1, rfl⟩) ?_
  refine mw_steps X 2 (pc' := 6) (lv' := [(0, .ref mb)]) (st' := [.int (nI 0), .ref (mb + 1), .int (nI 0), .ref (mb + 1)]) rfl ?_
  refine mw_iald X (v := W (0)) (0) rfl rfl (fun H h => ⟨_, _, h.2.1, by omega, by decide, rfl⟩) ?_
  refine mw_steps X 2 (pc' := 9) (lv' := [(0, .ref mb)]) (st' := [.int ((W (0)) + (nI 1)), .int (nI 0), .ref (mb + 1)]) rfl ?_
  refine mw_iast X (I1 := md_I Γ mb (upd W (0) ((W (0)) + (nI 1))) ρ) (0) rfl rfl (fun H h => ⟨md_A1, _, _, h.2.1, by omega, by decide, fun H1 o c => h.stw o c⟩) ?_
  rw [show upd W (0) ((W (0)) + (nI 1)) = W0 from hW0.symm]
  refine mw_steps X 3 (pc' := 13) (lv' := [(1, .int (nI 0)), (0, .ref mb)]) (st' := [.ref mb]) rfl ?_
  refine mw_get X kf_X5_7.fl kc_5 rfl (v := .ref (mb + 1)) (fun H h => ⟨_, h.1, rfl⟩) ?_
  refine mw_steps X 1 (pc' := 18) (lv' := [(1, .int (nI 0)), (0, .ref mb)]) (st' := [.int (nI 13), .ref (mb + 1)]) rfl ?_
  refine mw_iald X (v := nI (mo_n (W0 13))) (13) rfl rfl (fun H h => ⟨_, _, h.2.1, by omega, by decide, hn⟩) ?_
  refine mw_steps X 1 (pc' := 20) (lv' := [(2, .int (nI (mo_n (W0 13)))), (1, .int (nI 0)), (0, .ref mb)]) (st' := []) rfl ?_
  refine mw_wf (σ := Nat × Nat × (Nat → Int32)) (fun q => q.1) (fun q => iv (c + 2 * q.1) q.2.2 ∧ q.2.1 + q.1 ≤ mo_n (q.2.2 13) ∧ q.1 ≤ 6 ∧ mo_looks q.1 q.2.1 q.2.2 = mo_tick W) (fun q => md_I Γ mb q.2.2 ρ) (fun q => [(2, .int (nI q.1)), (1, .int (nI q.2.1)), (0, .ref mb)]) (fun q hq ih => ?_) (mo_n (W0 13), 0, W0) ⟨hi0.less (by omega), by simp, by omega, by unfold mo_tick; rw [← hW0, h13]⟩
  obtain ⟨n, k, V⟩ := q
  obtain ⟨hv, hk, hn6, hlo⟩ := hq
  dsimp only at hv hk hn6 hlo ⊢
  have hvn := ml_n6 hv.1
  cases n with
  | zero =>
    refine mw_steps X 1 (pc' := 21) (lv' := [(2, .int (nI 0)), (1, .int (nI k)), (0, .ref mb)]) (st' := [.int (nI 0)]) rfl ?_
    refine mw_if_le X 46 rfl rfl (fun c21 => ?_) (fun c21 => absurd (by decide) c21)
    refine mw_steps X 1 (pc' := 47) (lv' := [(2, .int (nI 0)), (1, .int (nI k)), (0, .ref mb)]) (st' := [.ref mb]) rfl ?_
    refine mw_get X kf_X5_7.fl kc_5 rfl (v := .ref (mb + 1)) (fun H h => ⟨_, h.1, rfl⟩) ?_
    refine mw_steps X 1 (pc' := 52) (lv' := [(2, .int (nI 0)), (1, .int (nI k)), (0, .ref mb)]) (st' := [.int (nI 13), .ref (mb + 1)]) rfl ?_
    refine mw_iald X (v := V (13)) (13) rfl rfl (fun H h => ⟨_, _, h.2.1, by omega, by decide, rfl⟩) ?_
    exact mw_iret X rfl rfl (fun H h => ⟨by rw [← hlo]; rfl, by rw [← hlo]; exact h⟩)
  | succ n =>
    unfold mo_looks at hlo
    have hl2 := ml_look_n (c := c + 2 * n) (k := k) hv (by omega)
    have hi2 : iv (c + 2 * n) (mo_look V k) := iv_look (c := c + 2 * n) hv (by omega)
    refine mw_steps X 1 (pc' := 21) (lv' := [(2, .int (nI (n + 1))), (1, .int (nI k)), (0, .ref mb)]) (st' := [.int (nI (n + 1))]) rfl ?_
    refine mw_if_le X 46 rfl rfl (fun c21 => absurd c21 (nI_nle (by omega) (by omega))) (fun c21 => ?_)
    refine mw_steps X 3 (pc' := 27) (lv' := [(2, .int (nI (n + 1))), (1, .int (nI k)), (0, .ref mb)]) (st' := [.int (nI k), .ref mb, .int (nI k)]) rfl ?_
    refine mw_cV1r X kd_X5_lookAt kv_X5_lookAt kl_X5_113 (ci := 5) rfl rfl (Nat.le_of_ble_eq_true rfl) ⟨Nat.le_of_ble_eq_true rfl, Nat.le_of_ble_eq_true rfl⟩ ⟨Nat.le_of_ble_eq_true rfl, Nat.le_of_ble_eq_true rfl⟩ (fun _ h => h) (fun H h => ⟨⟨_, h.1⟩, cm_look hmb h (c := c + 2 * n) hv (by omega)⟩) ?_
    refine mw_if_eq X 37 rfl rfl (fun c30 => ?_) (fun c30 => ?_)
    · refine mw_steps X 5 (pc' := 20) (lv' := [(2, .int ((nI (n + 1)) + (-1))), (1, .int ((nI k) + (nI 0))), (0, .ref mb)]) (st' := []) rfl ?_
      refine mw_lveq (lv' := [(2, .int (nI n)), (1, .int (nI k)), (0, .ref mb)]) (by rw [pk_m1, ml_plus0]) ?_
      rw [mo_b_z c30, if_neg (by decide)] at hlo hl2
      exact ih (n, k, mo_look V k) ⟨hi2, by dsimp only; omega, by dsimp only; omega, hlo⟩ (by dsimp only; omega)
    · refine mw_steps X 6 (pc' := 20) (lv' := [(2, .int ((nI (n + 1)) + (-1))), (1, .int ((nI k) + (nI 1))), (0, .ref mb)]) (st' := []) rfl ?_
      refine mw_lveq (lv' := [(2, .int (nI n)), (1, .int (nI (k + 1))), (0, .ref mb)]) (by rw [pk_m1, nI_add]) ?_
      rw [mo_b_nz c30, if_pos rfl] at hlo hl2
      exact ih (n, k + 1, mo_look V k) ⟨hi2, by dsimp only; omega, by dsimp only; omega, hlo⟩ (by dsimp only; omega)
set_option maxHeartbeats 4000000 in
theorem cm_isEnd {l : Launch} {Γ : mw_C} {mb : Nat} (hmb : Γ.2.2.2 ≤ mb) {H : Heap} {x : Int32} {J : Heap → Prop} (hJ : J H) : mw_Cr l Γ mX5_isEnd 2 0 0 (md_A mb) [.int x] H (some (.int (mo_b (mo_bl x 2)))) J := by
  refine mw_ofG (P := pX5_isEnd) (by decide) (md_As hmb) oX5_isEnd (Nat.le_of_ble_eq_true rfl) ?_
  intro pg e0 sg mg below meth cd X hs
  refine mw_pre (I' := J) (fun H1 h1 => by rw [h1]; exact hJ) ?_
  refine mw_steps X 4 (pc' := 4) (lv' := [(0, .int x)]) (st' := [.long 1, .long 0, .long x.toInt64]) rfl ?_
  refine mw_cS3r X kd_X5_in ks_X5_in kl_X5_68 rfl (Nat.le_of_ble_eq_true rfl) ⟨Nat.le_of_ble_eq_true rfl, Nat.le_of_ble_eq_true rfl⟩ ⟨Nat.le_of_ble_eq_true rfl, Nat.le_of_ble_eq_true rfl⟩ (fun _ h => h) (fun H h => cm_in hmb h) ?_
  exact mw_zret X rfl (mo_b_or _) rfl (fun H h => ⟨congrArg (fun z => some (Value.int (mo_b z))) (by rw [show (1 : Int64) = (nI (2 - 1)).toInt64 by decide]; exact mo_in_bl (by omega) (by omega)), h⟩)
set_option maxHeartbeats 4000000 in
theorem cm_isPlace {l : Launch} {Γ : mw_C} {mb : Nat} (hmb : Γ.2.2.2 ≤ mb) {H : Heap} {x : Int32} {J : Heap → Prop} (hJ : J H) : mw_Cr l Γ mX5_isPlace 2 0 0 (md_A mb) [.int x] H (some (.int (mo_b (mo_bl x 5)))) J := by
  refine mw_ofG (P := pX5_isPlace) (by decide) (md_As hmb) oX5_isPlace (Nat.le_of_ble_eq_true rfl) ?_
  intro pg e0 sg mg below meth cd X hs
  refine mw_pre (I' := J) (fun H1 h1 => by rw [h1]; exact hJ) ?_
  refine mw_steps X 3 (pc' := 3) (lv' := [(0, .int x)]) (st' := [.long 0, .long x.toInt64]) rfl ?_
  refine mw_ldc2 X kk_X5_142 rfl ?_
  refine mw_cS3r X kd_X5_in ks_X5_in kl_X5_68 rfl (Nat.le_of_ble_eq_true rfl) ⟨Nat.le_of_ble_eq_true rfl, Nat.le_of_ble_eq_true rfl⟩ ⟨Nat.le_of_ble_eq_true rfl, Nat.le_of_ble_eq_true rfl⟩ (fun _ h => h) (fun H h => cm_in hmb h) ?_
  exact mw_zret X rfl (mo_b_or _) rfl (fun H h => ⟨congrArg (fun z => some (Value.int (mo_b z))) (by rw [show (4 : Int64) = (nI (5 - 1)).toInt64 by decide]; exact mo_in_bl (by omega) (by omega)), h⟩)
set_option maxHeartbeats 4000000 in
set_option maxRecDepth 20000 in
theorem cm_isLetter {l : Launch} {Γ : mw_C} {mb : Nat} (hmb : Γ.2.2.2 ≤ mb) {W : Nat → Int32} {ρ : md_R} {H : Heap} {x : Int32} (hH : md_I Γ mb W ρ H) (hc : iv_c W) : mw_Cr l Γ mX5_isLetter 2 0 0 (md_A mb) [.ref mb, .int x] H (some (.int (mo_b (mo_bl x (mo_n (W 11)))))) (md_I Γ mb W ρ) := by
  have hr := ml_i11 hc
  have hr2 := ml_n24 hc
  refine mw_ofG (P := pX5_isLetter) (by decide) (md_As hmb) oX5_isLetter (Nat.le_of_ble_eq_true rfl) ?_
  intro pg e0 sg mg below meth cd X hs
  refine mw_pre (I' := md_I Γ mb W ρ) (fun H1 h1 => by rw [h1]; exact hH) ?_
  refine mw_steps X 4 (pc' := 4) (lv' := [(0, .ref mb), (1, .int x)]) (st' := [.ref mb, .long 0, .long x.toInt64]) rfl ?_
  refine mw_get X kf_X5_7.fl kc_5 rfl (v := .ref (mb + 1)) (fun H h => ⟨_, h.1, rfl⟩) ?_
  refine mw_steps X 1 (pc' := 9) (lv' := [(0, .ref mb), (1, .int x)]) (st' := [.int (nI 11), .ref (mb + 1), .long 0, .long x.toInt64]) rfl ?_
  refine mw_iald X (v := nI (mo_n (W 11))) (11) rfl rfl (fun H h => ⟨_, _, h.2.1, by omega, by decide, hr⟩) ?_
  refine mw_steps X 3 (pc' := 13) (lv' := [(0, .ref mb), (1, .int x)]) (st' := [.long (((nI (mo_n (W 11))) - (nI 1)).toInt64), .long 0, .long x.toInt64]) rfl ?_
  refine mw_cS3r X kd_X5_in ks_X5_in kl_X5_68 rfl (Nat.le_of_ble_eq_true rfl) ⟨Nat.le_of_ble_eq_true rfl, Nat.le_of_ble_eq_true rfl⟩ ⟨Nat.le_of_ble_eq_true rfl, Nat.le_of_ble_eq_true rfl⟩ (fun _ h => h) (fun H h => cm_in hmb h) ?_
  exact mw_zret X rfl (mo_b_or _) rfl (fun H h => ⟨congrArg (fun z => some (Value.int (mo_b z))) (mo_in_cnt (by omega)), h⟩)
set_option maxHeartbeats 4000000 in
set_option maxRecDepth 20000 in
theorem cm_next {l : Launch} {Γ : mw_C} {mb : Nat} (hmb : Γ.2.2.2 ≤ mb) {W : Nat → Int32} {ρ : md_R} {H : Heap} {e c : Nat} (hH : md_I Γ mb W ρ H) (hv : iv c W) (he : e < 2) : mw_Cr l Γ mX5_next 4 0 0 (md_A mb) [.ref mb, .int (nI e)] H (some (.int (op_next W e).1)) (md_I Γ mb (op_next W e).2 ρ) := by
  obtain ⟨⟨n, hn2, hn⟩, -, ⟨cu, hcu5, hcu⟩, -⟩ := hv.2.2.2.2.2.2.2.1 e he
  refine mw_ofG (P := pX5_next) (by decide) (md_As hmb) oX5_next (Nat.le_of_ble_eq_true rfl) ?_
  intro pg e0 sg mg below meth cd X hs
  refine mw_pre (I' := md_I Γ mb W ρ) (fun H1 h1 => by rw [h1]; exact hH) ?_
  refine mw_steps X 1 (pc' := 1) (lv' := [(0, .ref mb), (1, .int (nI e))]) (st' := [.ref mb]) rfl ?_
  refine mw_get X kf_X5_7.fl kc_5 rfl (v := .ref (mb + 1)) (fun H h => ⟨_, h.1, rfl⟩) ?_
  refine mw_steps X 3 (pc' := 8) (lv' := [(0, .ref mb), (1, .int (nI e))]) (st' := [.int ((nI 18) + (nI e)), .ref (mb + 1)]) rfl ?_
  refine mw_iald X (v := nI n) (18 + e) (by simp only [nI_add, pk_mul]) rfl (fun H h => ⟨_, _, h.2.1, by omega, by decide, hn⟩) ?_
  refine mw_steps X 1 (pc' := 11) (lv' := [(0, .ref mb), (1, .int (nI e))]) (st' := [.int (nI 40), .int (nI n)]) rfl ?_
  refine mw_icmp_ne X 17 rfl rfl (fun c11 => ?_) (fun c11 => ?_)
  · refine mw_steps X 1 (pc' := 18) (lv' := [(0, .ref mb), (1, .int (nI e))]) (st' := [.ref mb]) rfl ?_
    refine mw_get X kf_X5_7.fl kc_5 rfl (v := .ref (mb + 1)) (fun H h => ⟨_, h.1, rfl⟩) ?_
    refine mw_steps X 3 (pc' := 25) (lv' := [(0, .ref mb), (1, .int (nI e))]) (st' := [.int ((nI 18) + (nI e)), .ref (mb + 1)]) rfl ?_
    refine mw_iald X (v := nI n) (18 + e) (by simp only [nI_add, pk_mul]) rfl (fun H h => ⟨_, _, h.2.1, by omega, by decide, hn⟩) ?_
    refine mw_steps X 2 (pc' := 28) (lv' := [(2, .int (nI n)), (0, .ref mb), (1, .int (nI e))]) (st' := [.ref mb]) rfl ?_
    refine mw_get X kf_X5_7.fl kc_5 rfl (v := .ref (mb + 1)) (fun H h => ⟨_, h.1, rfl⟩) ?_
    refine mw_steps X 4 (pc' := 36) (lv' := [(2, .int (nI n)), (0, .ref mb), (1, .int (nI e))]) (st' := [.int ((nI 18) + (nI e)), .ref (mb + 1), .int ((nI 18) + (nI e)), .ref (mb + 1)]) rfl ?_
    refine mw_iald X (v := nI n) (18 + e) (by simp only [nI_add, pk_mul]) rfl (fun H h => ⟨_, _, h.2.1, by omega, by decide, hn⟩) ?_
    refine mw_steps X 2 (pc' := 39) (lv' := [(2, .int (nI n)), (0, .ref mb), (1, .int (nI e))]) (st' := [.int ((nI n) + (nI 1)), .int ((nI 18) + (nI e)), .ref (mb + 1)]) rfl ?_
    refine mw_iast X (I1 := md_I Γ mb (upd W (18 + e) ((nI n) + (nI 1))) ρ) (18 + e) (by simp only [nI_add, pk_mul]) rfl (fun H h => ⟨md_A1, _, _, h.2.1, by omega, by decide, fun H1 o c => h.stw o c⟩) ?_
    refine mw_steps X 3 (pc' := 43) (lv' := [(2, .int (nI n)), (0, .ref mb), (1, .int (nI e))]) (st' := [.ref mb, .int (nI e), .ref mb]) rfl ?_
    refine mw_get X kf_X5_7.fl kc_5 rfl (v := .ref (mb + 1)) (fun H h => ⟨_, h.1, rfl⟩) ?_
    refine mw_steps X 3 (pc' := 49) (lv' := [(2, .int (nI n)), (0, .ref mb), (1, .int (nI e))]) (st' := [.int ((nI 2) + (nI e)), .ref (mb + 1), .int (nI e), .ref mb]) rfl ?_
    refine mw_iald X (v := nI cu) (2 + e) (by simp only [nI_add, pk_mul]) rfl (fun H h => ⟨_, _, h.2.1, by omega, by decide, (by simp (disch := omega) only [pk_un]; exact hcu)⟩) ?_
    refine mw_steps X 2 (pc' := 52) (lv' := [(2, .int (nI n)), (0, .ref mb), (1, .int (nI e))]) (st' := [.int (nI n), .int (nI 0), .int (nI cu), .int (nI e), .ref mb]) rfl ?_
    refine mw_cV4v X kd_X5_goes kv_X5_goes kl_X5_47 (ci := 5) rfl rfl (Nat.le_of_ble_eq_true rfl) ⟨Nat.le_of_ble_eq_true rfl, Nat.le_of_ble_eq_true rfl⟩ ⟨Nat.le_of_ble_eq_true rfl, Nat.le_of_ble_eq_true rfl⟩ (fun _ h => h) (fun H h => ⟨⟨_, h.1⟩, cm_goes hmb h (k := 0) (hv.1.cg (fun j a b => by simp (disch := omega) only [pk_un])) he hcu5 (by omega)⟩) ?_
    refine mw_steps X 1 (pc' := 56) (lv' := [(2, .int (nI n)), (0, .ref mb), (1, .int (nI e))]) (st' := [.int (nI n)]) rfl ?_
    have hop : op_next W e = (nI n, mo_goes (upd W (18 + e) ((nI n) + (nI 1))) e cu 0 (nI n)) := by unfold op_next; rw [hn, if_neg c11, hcu, ml_n (by omega)]
    exact mw_iret X rfl rfl (fun H h => ⟨by rw [hop], by rw [hop]; exact h⟩)
  · refine mw_ldc X kk_X5_161 rfl ?_
    have hop : op_next W e = ((-1000000004), W) := by unfold op_next; rw [hn, if_pos c11]
    exact mw_iret X rfl rfl (fun H h => ⟨by rw [hop], by rw [hop]; exact h⟩)
set_option maxHeartbeats 4000000 in
set_option maxRecDepth 20000 in
theorem cm_say {l : Launch} {Γ : mw_C} {mb : Nat} (hmb : Γ.2.2.2 ≤ mb) {W : Nat → Int32} {ρ : md_R} {H : Heap} {c : Nat} (hH : md_I Γ mb W ρ H) (hv : iv c W) : mw_Cr l Γ mX5_say 5 0 0 (md_A mb) [.ref mb] H (some (.int (op_next W 0).1)) (md_I Γ mb (op_next W 0).2 ρ) := by
  refine mw_ofG (P := pX5_say) (by decide) (md_As hmb) oX5_say (Nat.le_of_ble_eq_true rfl) ?_
  intro pg e0 sg mg below meth cd X hs
  refine mw_pre (I' := md_I Γ mb W ρ) (fun H1 h1 => by rw [h1]; exact hH) ?_
  refine mw_steps X 2 (pc' := 2) (lv' := [(0, .ref mb)]) (st' := [.int (nI 0), .ref mb]) rfl ?_
  refine mw_cV1r X kd_X5_next kv_X5_next kl_X5_162 (ci := 5) rfl rfl (Nat.le_of_ble_eq_true rfl) ⟨Nat.le_of_ble_eq_true rfl, Nat.le_of_ble_eq_true rfl⟩ ⟨Nat.le_of_ble_eq_true rfl, Nat.le_of_ble_eq_true rfl⟩ (fun _ h => h) (fun H h => ⟨⟨_, h.1⟩, cm_next hmb h (e := 0) hv (by omega)⟩) ?_
  exact mw_iret X rfl rfl (fun H h => ⟨rfl, h⟩)
set_option maxHeartbeats 4000000 in
set_option maxRecDepth 20000 in
theorem cm_speak {l : Launch} {Γ : mw_C} {mb : Nat} (hmb : Γ.2.2.2 ≤ mb) {W : Nat → Int32} {ρ : md_R} {H : Heap} {c : Nat} (hH : md_I Γ mb W ρ H) (hv : iv c W) : mw_Cr l Γ mX5_speak 5 0 0 (md_A mb) [.ref mb] H (some (.int (op_next W 1).1)) (md_I Γ mb (op_next W 1).2 ρ) := by
  refine mw_ofG (P := pX5_speak) (by decide) (md_As hmb) oX5_speak (Nat.le_of_ble_eq_true rfl) ?_
  intro pg e0 sg mg below meth cd X hs
  refine mw_pre (I' := md_I Γ mb W ρ) (fun H1 h1 => by rw [h1]; exact hH) ?_
  refine mw_steps X 2 (pc' := 2) (lv' := [(0, .ref mb)]) (st' := [.int (nI 1), .ref mb]) rfl ?_
  refine mw_cV1r X kd_X5_next kv_X5_next kl_X5_162 (ci := 5) rfl rfl (Nat.le_of_ble_eq_true rfl) ⟨Nat.le_of_ble_eq_true rfl, Nat.le_of_ble_eq_true rfl⟩ ⟨Nat.le_of_ble_eq_true rfl, Nat.le_of_ble_eq_true rfl⟩ (fun _ h => h) (fun H h => ⟨⟨_, h.1⟩, cm_next hmb h (e := 1) hv (by omega)⟩) ?_
  exact mw_iret X rfl rfl (fun H h => ⟨rfl, h⟩)
set_option maxHeartbeats 4000000 in
set_option maxRecDepth 20000 in
theorem cm_open {l : Launch} {Γ : mw_C} {mb : Nat} (hmb : Γ.2.2.2 ≤ mb) {W : Nat → Int32} {ρ : md_R} {H : Heap} {c : Nat} {x : Int32} (hH : md_I Γ mb W ρ H) (hv : iv c W) : mw_Cr l Γ mX5_open 5 0 0 (md_A mb) [.ref mb, .int x] H (some (.int (op_open W x).1)) (md_I Γ mb (op_open W x).2 ρ) := by
  refine mw_ofG (P := pX5_open) (by decide) (md_As hmb) oX5_open (Nat.le_of_ble_eq_true rfl) ?_
  intro pg e0 sg mg below meth cd X hs
  refine mw_pre (I' := md_I Γ mb W ρ) (fun H1 h1 => by rw [h1]; exact hH) ?_
  refine mw_steps X 1 (pc' := 1) (lv' := [(0, .ref mb), (1, .int x)]) (st' := [.int x]) rfl ?_
  refine mw_cS1r X kd_X5_isPlace ks_X5_isPlace kl_X5_151 rfl (Nat.le_of_ble_eq_true rfl) ⟨Nat.le_of_ble_eq_true rfl, Nat.le_of_ble_eq_true rfl⟩ ⟨Nat.le_of_ble_eq_true rfl, Nat.le_of_ble_eq_true rfl⟩ (fun _ h => h) (fun H h => cm_isPlace hmb h) ?_
  refine mw_if_ne X 10 rfl rfl (fun c4 => ?_) (fun c4 => ?_)
  · obtain ⟨p, hp, rfl⟩ := mo_bl_t (mo_b_nz c4) (by omega)
    refine mw_steps X 1 (pc' := 11) (lv' := [(0, .ref mb), (1, .int (nI p))]) (st' := [.ref mb]) rfl ?_
    refine mw_cV0r X kd_X5_leastSpare kv_X5_leastSpare kl_X5_165 (ci := 5) rfl rfl (Nat.le_of_ble_eq_true rfl) ⟨Nat.le_of_ble_eq_true rfl, Nat.le_of_ble_eq_true rfl⟩ ⟨Nat.le_of_ble_eq_true rfl, Nat.le_of_ble_eq_true rfl⟩ (fun _ h => h) (fun H h => ⟨⟨_, h.1⟩, cm_least hmb h⟩) ?_
    refine mw_steps X 2 (pc' := 16) (lv' := [(2, .int (mo_ix (mo_least W) 40)), (0, .ref mb), (1, .int (nI p))]) (st' := [.ref mb]) rfl ?_
    refine mw_get X kf_X5_7.fl kc_5 rfl (v := .ref (mb + 1)) (fun H h => ⟨_, h.1, rfl⟩) ?_
    refine mw_steps X 3 (pc' := 23) (lv' := [(2, .int (mo_ix (mo_least W) 40)), (0, .ref mb), (1, .int (nI p))]) (st' := [.int ((nI 22) + (nI p)), .ref (mb + 1)]) rfl ?_
    refine mw_iald X (v := W (22 + p)) (22 + p) (by simp only [nI_add, pk_mul]) rfl (fun H h => ⟨_, _, h.2.1, by omega, by decide, rfl⟩) ?_
    refine mw_if_ge X 31 rfl rfl (fun c24 => ?_) (fun c24 => ?_)
    · refine mw_ldc X kk_X5_168 rfl ?_
      have hop : op_open W (nI p) = ((-1000000003), W) := by unfold op_open; rw [if_pos (mo_bl_n hp (by omega)), ml_n (by omega), if_pos (by first | exact Or.inl c24 | exact Or.inr (fun q => c28 ((ml_ix_ge (by omega)).mpr q)))]
      exact mw_iret X rfl rfl (fun H h => ⟨by rw [hop], by rw [hop]; exact h⟩)
    · refine mw_steps X 1 (pc' := 28) (lv' := [(2, .int (mo_ix (mo_least W) 40)), (0, .ref mb), (1, .int (nI p))]) (st' := [.int (mo_ix (mo_least W) 40)]) rfl ?_
      refine mw_if_ge X 34 rfl rfl (fun c28 => ?_) (fun c28 => ?_)
      · have hls : mo_least W < 40 := (ml_ix_ge (by omega)).mp c28
        rw [show mo_ix (mo_least W) 40 = nI (mo_least W) from if_pos hls]
        obtain ⟨n, hn⟩ : ∃ n, n = mo_least W := ⟨_, rfl⟩
        have hls2 := hls
        rw [← hn] at hls ⊢
        refine mw_steps X 1 (pc' := 35) (lv' := [(2, .int (nI n)), (0, .ref mb), (1, .int (nI p))]) (st' := [.ref mb]) rfl ?_
        refine mw_get X kf_X5_7.fl kc_5 rfl (v := .ref (mb + 1)) (fun H h => ⟨_, h.1, rfl⟩) ?_
        refine mw_steps X 4 (pc' := 43) (lv' := [(2, .int (nI n)), (0, .ref mb), (1, .int (nI p))]) (st' := [.int (nI 2), .int ((nI 87) + (nI n)), .ref (mb + 1)]) rfl ?_
        refine mw_iast X (I1 := md_I Γ mb (upd W (87 + n) (nI 2)) ρ) (87 + n) (by simp only [nI_add, pk_mul]) rfl (fun H h => ⟨md_A1, _, _, h.2.1, by omega, by decide, fun H1 o c => h.stw o c⟩) ?_
        refine mw_steps X 1 (pc' := 45) (lv' := [(2, .int (nI n)), (0, .ref mb), (1, .int (nI p))]) (st' := [.ref mb]) rfl ?_
        refine mw_get X kf_X5_7.fl kc_5 rfl (v := .ref (mb + 1)) (fun H h => ⟨_, h.1, rfl⟩) ?_
        refine mw_steps X 4 (pc' := 53) (lv' := [(2, .int (nI n)), (0, .ref mb), (1, .int (nI p))]) (st' := [.int (nI n), .int ((nI 22) + (nI p)), .ref (mb + 1)]) rfl ?_
        refine mw_iast X (I1 := md_I Γ mb (upd (upd W (87 + n) (nI 2)) (22 + p) (nI n)) ρ) (22 + p) (by simp only [nI_add, pk_mul]) rfl (fun H h => ⟨md_A1, _, _, h.2.1, by omega, by decide, fun H1 o c => h.stw o c⟩) ?_
        refine mw_steps X 1 (pc' := 55) (lv' := [(2, .int (nI n)), (0, .ref mb), (1, .int (nI p))]) (st' := [.ref mb]) rfl ?_
        refine mw_get X kf_X5_7.fl kc_5 rfl (v := .ref (mb + 1)) (fun H h => ⟨_, h.1, rfl⟩) ?_
        refine mw_steps X 4 (pc' := 63) (lv' := [(2, .int (nI n)), (0, .ref mb), (1, .int (nI p))]) (st' := [.int (nI 0), .int ((nI 27) + (nI p)), .ref (mb + 1)]) rfl ?_
        refine mw_iast X (I1 := md_I Γ mb (upd (upd (upd W (87 + n) (nI 2)) (22 + p) (nI n)) (27 + p) (nI 0)) ρ) (27 + p) (by simp only [nI_add, pk_mul]) rfl (fun H h => ⟨md_A1, _, _, h.2.1, by omega, by decide, fun H1 o c => h.stw o c⟩) ?_
        refine mw_steps X 3 (pc' := 67) (lv' := [(2, .int (nI n)), (0, .ref mb), (1, .int (nI p))]) (st' := [.int (nI p), .int (nI 0), .ref mb]) rfl ?_
        refine mw_cV2v X kd_X5_challengeNow kv_X5_challengeNow kl_X5_54 (ci := 5) rfl rfl (Nat.le_of_ble_eq_true rfl) ⟨Nat.le_of_ble_eq_true rfl, Nat.le_of_ble_eq_true rfl⟩ ⟨Nat.le_of_ble_eq_true rfl, Nat.le_of_ble_eq_true rfl⟩ (fun _ h => h) (fun H h => ⟨⟨_, h.1⟩, cm_challenge hmb h (e := 0) (iv_sureU (iv_open (iv_spare hv hls (Or.inr (Or.inr rfl))) hp (Or.inr ⟨n, hls, rfl⟩)) hp (Or.inl rfl)) (by omega) hp⟩) ?_
        refine mw_steps X 1 (pc' := 71) (lv' := [(2, .int (nI n)), (0, .ref mb), (1, .int (nI p))]) (st' := [.int (nI n)]) rfl ?_
        have hop : op_open W (nI p) = (nI n, mo_challenge (upd (upd (upd W (87 + n) (nI 2)) (22 + p) (nI n)) (27 + p) (nI 0)) 0 p) := by unfold op_open; rw [if_pos (mo_bl_n hp (by omega)), ml_n (by omega), if_neg (by rintro (q | q); exact c24 q; exact q hls2), ← hn]
        exact mw_iret X rfl rfl (fun H h => ⟨by rw [hop], by rw [hop]; exact h⟩)
      · refine mw_ldc X kk_X5_168 rfl ?_
        have hop : op_open W (nI p) = ((-1000000003), W) := by unfold op_open; rw [if_pos (mo_bl_n hp (by omega)), ml_n (by omega), if_pos (by first | exact Or.inl c24 | exact Or.inr (fun q => c28 ((ml_ix_ge (by omega)).mpr q)))]
        exact mw_iret X rfl rfl (fun H h => ⟨by rw [hop], by rw [hop]; exact h⟩)
  · refine mw_ldc X kk_X5_147 rfl ?_
    have hop : op_open W x = ((-1000000001), W) := by unfold op_open; rw [if_neg (by rw [mo_b_z c4]; decide)]
    exact mw_iret X rfl rfl (fun H h => ⟨by rw [hop], by rw [hop]; exact h⟩)
set_option maxHeartbeats 4000000 in
set_option maxRecDepth 20000 in
theorem cm_go {l : Launch} {Γ : mw_C} {mb : Nat} (hmb : Γ.2.2.2 ≤ mb) {W : Nat → Int32} {ρ : md_R} {H : Heap} {c : Nat} {x : Int32} (hH : md_I Γ mb W ρ H) (hv : iv c W) : mw_Cr l Γ mX5_go 6 0 0 (md_A mb) [.ref mb, .int x] H (some (.int (op_go W x).1)) (md_I Γ mb (op_go W x).2 ρ) := by
  refine mw_ofG (P := pX5_go) (by decide) (md_As hmb) oX5_go (Nat.le_of_ble_eq_true rfl) ?_
  intro pg e0 sg mg below meth cd X hs
  refine mw_pre (I' := md_I Γ mb W ρ) (fun H1 h1 => by rw [h1]; exact hH) ?_
  refine mw_steps X 1 (pc' := 1) (lv' := [(0, .ref mb), (1, .int x)]) (st' := [.int x]) rfl ?_
  refine mw_cS1r X kd_X5_isPlace ks_X5_isPlace kl_X5_151 rfl (Nat.le_of_ble_eq_true rfl) ⟨Nat.le_of_ble_eq_true rfl, Nat.le_of_ble_eq_true rfl⟩ ⟨Nat.le_of_ble_eq_true rfl, Nat.le_of_ble_eq_true rfl⟩ (fun _ h => h) (fun H h => cm_isPlace hmb h) ?_
  refine mw_if_ne X 10 rfl rfl (fun c4 => ?_) (fun c4 => ?_)
  · obtain ⟨p, hp, rfl⟩ := mo_bl_t (mo_b_nz c4) (by omega)
    refine mw_steps X 1 (pc' := 11) (lv' := [(0, .ref mb), (1, .int (nI p))]) (st' := [.ref mb]) rfl ?_
    refine mw_get X kf_X5_7.fl kc_5 rfl (v := .ref (mb + 1)) (fun H h => ⟨_, h.1, rfl⟩) ?_
    refine mw_steps X 3 (pc' := 18) (lv' := [(0, .ref mb), (1, .int (nI p))]) (st' := [.int ((nI 22) + (nI p)), .ref (mb + 1)]) rfl ?_
    refine mw_iald X (v := W (22 + p)) (22 + p) (by simp only [nI_add, pk_mul]) rfl (fun H h => ⟨_, _, h.2.1, by omega, by decide, rfl⟩) ?_
    refine mw_if_lt X 32 rfl rfl (fun c19 => ?_) (fun c19 => ?_)
    · refine mw_ldc X kk_X5_168 rfl ?_
      have hop : op_go W (nI p) = ((-1000000003), W) := by unfold op_go; rw [if_pos (mo_bl_n hp (by omega)), ml_n (by omega), if_pos (by first | exact Or.inl c19 | exact Or.inr c29)]
      exact mw_iret X rfl rfl (fun H h => ⟨by rw [hop], by rw [hop]; exact h⟩)
    · refine mw_steps X 1 (pc' := 23) (lv' := [(0, .ref mb), (1, .int (nI p))]) (st' := [.ref mb]) rfl ?_
      refine mw_get X kf_X5_7.fl kc_5 rfl (v := .ref (mb + 1)) (fun H h => ⟨_, h.1, rfl⟩) ?_
      refine mw_steps X 1 (pc' := 27) (lv' := [(0, .ref mb), (1, .int (nI p))]) (st' := [.int (nI 2), .ref (mb + 1)]) rfl ?_
      refine mw_iald X (v := W (2)) (2) rfl rfl (fun H h => ⟨_, _, h.2.1, by omega, by decide, rfl⟩) ?_
      refine mw_steps X 1 (pc' := 29) (lv' := [(0, .ref mb), (1, .int (nI p))]) (st' := [.int (nI p), .int (W (2))]) rfl ?_
      refine mw_icmp_ne X 35 rfl rfl (fun c29 => ?_) (fun c29 => ?_)
      · refine mw_steps X 2 (pc' := 37) (lv' := [(0, .ref mb), (1, .int (nI p))]) (st' := [.int (nI p), .ref mb]) rfl ?_
        refine mw_cV1v X kd_X5_goTo kv_X5_goTo kl_X5_101 (ci := 5) rfl rfl (Nat.le_of_ble_eq_true rfl) ⟨Nat.le_of_ble_eq_true rfl, Nat.le_of_ble_eq_true rfl⟩ ⟨Nat.le_of_ble_eq_true rfl, Nat.le_of_ble_eq_true rfl⟩ (fun _ h => h) (fun H h => ⟨⟨_, h.1⟩, cm_goTo hmb h hv hp⟩) ?_
        refine mw_steps X 1 (pc' := 41) (lv' := [(0, .ref mb), (1, .int (nI p))]) (st' := [.ref mb]) rfl ?_
        refine mw_get X kf_X5_7.fl kc_5 rfl (v := .ref (mb + 1)) (fun H h => ⟨_, h.1, rfl⟩) ?_
        refine mw_steps X 1 (pc' := 45) (lv' := [(0, .ref mb), (1, .int (nI p))]) (st' := [.int (nI 4), .ref (mb + 1)]) rfl ?_
        refine mw_iald X (v := (mo_goTo W p) (4)) (4) rfl rfl (fun H h => ⟨_, _, h.2.1, by omega, by decide, rfl⟩) ?_
        have hop : op_go W (nI p) = ((mo_goTo W p) (4), mo_goTo W p) := by unfold op_go; rw [if_pos (mo_bl_n hp (by omega)), ml_n (by omega), if_neg (by rintro (q | q); exact c19 q; exact c29 q)]
        exact mw_iret X rfl rfl (fun H h => ⟨by rw [hop], by rw [hop]; exact h⟩)
      · refine mw_ldc X kk_X5_168 rfl ?_
        have hop : op_go W (nI p) = ((-1000000003), W) := by unfold op_go; rw [if_pos (mo_bl_n hp (by omega)), ml_n (by omega), if_pos (by first | exact Or.inl c19 | exact Or.inr c29)]
        exact mw_iret X rfl rfl (fun H h => ⟨by rw [hop], by rw [hop]; exact h⟩)
  · refine mw_ldc X kk_X5_147 rfl ?_
    have hop : op_go W x = ((-1000000001), W) := by unfold op_go; rw [if_neg (by rw [mo_b_z c4]; decide)]
    exact mw_iret X rfl rfl (fun H h => ⟨by rw [hop], by rw [hop]; exact h⟩)
set_option maxHeartbeats 4000000 in
set_option maxRecDepth 20000 in
theorem cm_closeA {l : Launch} {Γ : mw_C} {mb : Nat} (hmb : Γ.2.2.2 ≤ mb) {W : Nat → Int32} {ρ : md_R} {H : Heap} {c : Nat} {x : Int32} (hH : md_I Γ mb W ρ H) (hv : iv c W) : mw_Cr l Γ mX5_close 6 0 0 (md_A mb) [.ref mb, .int x] H (some (.int (op_close W x).1)) (md_I Γ mb (op_close W x).2 ρ) := by
  refine mw_ofG (P := pX5_close) (by decide) (md_As hmb) oX5_close (Nat.le_of_ble_eq_true rfl) ?_
  intro pg e0 sg mg below meth cd X hs
  refine mw_pre (I' := md_I Γ mb W ρ) (fun H1 h1 => by rw [h1]; exact hH) ?_
  refine mw_steps X 1 (pc' := 1) (lv' := [(0, .ref mb), (1, .int x)]) (st' := [.int x]) rfl ?_
  refine mw_cS1r X kd_X5_isPlace ks_X5_isPlace kl_X5_151 rfl (Nat.le_of_ble_eq_true rfl) ⟨Nat.le_of_ble_eq_true rfl, Nat.le_of_ble_eq_true rfl⟩ ⟨Nat.le_of_ble_eq_true rfl, Nat.le_of_ble_eq_true rfl⟩ (fun _ h => h) (fun H h => cm_isPlace hmb h) ?_
  refine mw_if_ne X 10 rfl rfl (fun c4 => ?_) (fun c4 => ?_)
  · obtain ⟨p, hp, rfl⟩ := mo_bl_t (mo_b_nz c4) (by omega)
    refine mw_steps X 1 (pc' := 11) (lv' := [(0, .ref mb), (1, .int (nI p))]) (st' := [.ref mb]) rfl ?_
    refine mw_get X kf_X5_7.fl kc_5 rfl (v := .ref (mb + 1)) (fun H h => ⟨_, h.1, rfl⟩) ?_
    refine mw_steps X 3 (pc' := 18) (lv' := [(0, .ref mb), (1, .int (nI p))]) (st' := [.int ((nI 22) + (nI p)), .ref (mb + 1)]) rfl ?_
    refine mw_iald X (v := W (22 + p)) (22 + p) (by simp only [nI_add, pk_mul]) rfl (fun H h => ⟨_, _, h.2.1, by omega, by decide, rfl⟩) ?_
    refine mw_steps X 2 (pc' := 21) (lv' := [(2, .int (W (22 + p))), (0, .ref mb), (1, .int (nI p))]) (st' := [.int (W (22 + p))]) rfl ?_
    refine mw_if_lt X 34 rfl rfl (fun c21 => ?_) (fun c21 => ?_)
    · refine mw_ldc X kk_X5_168 rfl ?_
      have hop : op_close W (nI p) = ((-1000000003), W) := by unfold op_close; rw [if_pos (mo_bl_n hp (by omega)), ml_n (by omega), if_pos (by first | exact Or.inl c21 | exact Or.inr c31)]
      exact mw_iret X rfl rfl (fun H h => ⟨by rw [hop], by rw [hop]; exact h⟩)
    · refine mw_steps X 1 (pc' := 25) (lv' := [(2, .int (W (22 + p))), (0, .ref mb), (1, .int (nI p))]) (st' := [.ref mb]) rfl ?_
      refine mw_get X kf_X5_7.fl kc_5 rfl (v := .ref (mb + 1)) (fun H h => ⟨_, h.1, rfl⟩) ?_
      refine mw_steps X 1 (pc' := 29) (lv' := [(2, .int (W (22 + p))), (0, .ref mb), (1, .int (nI p))]) (st' := [.int (nI 2), .ref (mb + 1)]) rfl ?_
      refine mw_iald X (v := W (2)) (2) rfl rfl (fun H h => ⟨_, _, h.2.1, by omega, by decide, rfl⟩) ?_
      refine mw_steps X 1 (pc' := 31) (lv' := [(2, .int (W (22 + p))), (0, .ref mb), (1, .int (nI p))]) (st' := [.int (nI p), .int (W (2))]) rfl ?_
      refine mw_icmp_ne X 37 rfl rfl (fun c31 => ?_) (fun c31 => ?_)
      · refine mw_steps X 2 (pc' := 39) (lv' := [(2, .int (W (22 + p))), (0, .ref mb), (1, .int (nI p))]) (st' := [.int (nI p), .ref mb]) rfl ?_
        refine mw_cV1v X kd_X5_closeNow kv_X5_closeNow kl_X5_104 (ci := 5) rfl rfl (Nat.le_of_ble_eq_true rfl) ⟨Nat.le_of_ble_eq_true rfl, Nat.le_of_ble_eq_true rfl⟩ ⟨Nat.le_of_ble_eq_true rfl, Nat.le_of_ble_eq_true rfl⟩ (fun _ h => h) (fun H h => ⟨⟨_, h.1⟩, cm_close hmb h hv hp⟩) ?_
        refine mw_steps X 1 (pc' := 43) (lv' := [(2, .int (W (22 + p))), (0, .ref mb), (1, .int (nI p))]) (st' := [.int (W (22 + p))]) rfl ?_
        have hop : op_close W (nI p) = (W (22 + p), mo_close W p) := by unfold op_close; rw [if_pos (mo_bl_n hp (by omega)), ml_n (by omega), if_neg (by rintro (q | q); exact c21 q; exact c31 q)]
        exact mw_iret X rfl rfl (fun H h => ⟨by rw [hop], by rw [hop]; exact h⟩)
      · refine mw_ldc X kk_X5_168 rfl ?_
        have hop : op_close W (nI p) = ((-1000000003), W) := by unfold op_close; rw [if_pos (mo_bl_n hp (by omega)), ml_n (by omega), if_pos (by first | exact Or.inl c21 | exact Or.inr c31)]
        exact mw_iret X rfl rfl (fun H h => ⟨by rw [hop], by rw [hop]; exact h⟩)
  · refine mw_ldc X kk_X5_147 rfl ?_
    have hop : op_close W x = ((-1000000001), W) := by unfold op_close; rw [if_neg (by rw [mo_b_z c4]; decide)]
    exact mw_iret X rfl rfl (fun H h => ⟨by rw [hop], by rw [hop]; exact h⟩)
set_option maxHeartbeats 4000000 in
set_option maxRecDepth 20000 in
theorem cm_again {l : Launch} {Γ : mw_C} {mb : Nat} (hmb : Γ.2.2.2 ≤ mb) {W : Nat → Int32} {ρ : md_R} {H : Heap} {c : Nat} {x : Int32} (hH : md_I Γ mb W ρ H) (hv : iv c W) : mw_Cr l Γ mX5_again 4 0 0 (md_A mb) [.ref mb, .int x] H (some (.int (op_again W x).1)) (md_I Γ mb (op_again W x).2 ρ) := by
  refine mw_ofG (P := pX5_again) (by decide) (md_As hmb) oX5_again (Nat.le_of_ble_eq_true rfl) ?_
  intro pg e0 sg mg below meth cd X hs
  refine mw_pre (I' := md_I Γ mb W ρ) (fun H1 h1 => by rw [h1]; exact hH) ?_
  refine mw_steps X 1 (pc' := 1) (lv' := [(0, .ref mb), (1, .int x)]) (st' := [.int x]) rfl ?_
  refine mw_cS1r X kd_X5_isEnd ks_X5_isEnd kl_X5_144 rfl (Nat.le_of_ble_eq_true rfl) ⟨Nat.le_of_ble_eq_true rfl, Nat.le_of_ble_eq_true rfl⟩ ⟨Nat.le_of_ble_eq_true rfl, Nat.le_of_ble_eq_true rfl⟩ (fun _ h => h) (fun H h => cm_isEnd hmb h) ?_
  refine mw_if_ne X 10 rfl rfl (fun c4 => ?_) (fun c4 => ?_)
  · obtain ⟨e, he, rfl⟩ := mo_bl_t (mo_b_nz c4) (by omega)
    obtain ⟨-, -, ⟨cu, hcu5, hcu⟩, -⟩ := hv.2.2.2.2.2.2.2.1 e he
    refine mw_steps X 1 (pc' := 11) (lv' := [(0, .ref mb), (1, .int (nI e))]) (st' := [.ref mb]) rfl ?_
    refine mw_get X kf_X5_7.fl kc_5 rfl (v := .ref (mb + 1)) (fun H h => ⟨_, h.1, rfl⟩) ?_
    refine mw_steps X 3 (pc' := 18) (lv' := [(0, .ref mb), (1, .int (nI e))]) (st' := [.int ((nI 20) + (nI e)), .ref (mb + 1)]) rfl ?_
    refine mw_iald X (v := W (20 + e)) (20 + e) (by simp only [nI_add, pk_mul]) rfl (fun H h => ⟨_, _, h.2.1, by omega, by decide, rfl⟩) ?_
    refine mw_steps X 3 (pc' := 22) (lv' := [(2, .int (W (20 + e))), (0, .ref mb), (1, .int (nI e))]) (st' := [.ref mb, .int (W (20 + e))]) rfl ?_
    refine mw_get X kf_X5_7.fl kc_5 rfl (v := .ref (mb + 1)) (fun H h => ⟨_, h.1, rfl⟩) ?_
    refine mw_steps X 3 (pc' := 29) (lv' := [(2, .int (W (20 + e))), (0, .ref mb), (1, .int (nI e))]) (st' := [.int ((nI 18) + (nI e)), .ref (mb + 1), .int (W (20 + e))]) rfl ?_
    refine mw_iald X (v := W (18 + e)) (18 + e) (by simp only [nI_add, pk_mul]) rfl (fun H h => ⟨_, _, h.2.1, by omega, by decide, rfl⟩) ?_
    refine mw_icmp_lt X 36 rfl rfl (fun c30 => ?_) (fun c30 => ?_)
    · refine mw_steps X 3 (pc' := 39) (lv' := [(2, .int (W (20 + e))), (0, .ref mb), (1, .int (nI e))]) (st' := [.ref mb, .int (nI e), .ref mb]) rfl ?_
      refine mw_get X kf_X5_7.fl kc_5 rfl (v := .ref (mb + 1)) (fun H h => ⟨_, h.1, rfl⟩) ?_
      refine mw_steps X 3 (pc' := 45) (lv' := [(2, .int (W (20 + e))), (0, .ref mb), (1, .int (nI e))]) (st' := [.int ((nI 2) + (nI e)), .ref (mb + 1), .int (nI e), .ref mb]) rfl ?_
      refine mw_iald X (v := nI cu) (2 + e) (by simp only [nI_add, pk_mul]) rfl (fun H h => ⟨_, _, h.2.1, by omega, by decide, hcu⟩) ?_
      refine mw_steps X 2 (pc' := 48) (lv' := [(2, .int (W (20 + e))), (0, .ref mb), (1, .int (nI e))]) (st' := [.int (W (20 + e)), .int (nI 0), .int (nI cu), .int (nI e), .ref mb]) rfl ?_
      refine mw_cV4v X kd_X5_goes kv_X5_goes kl_X5_47 (ci := 5) rfl rfl (Nat.le_of_ble_eq_true rfl) ⟨Nat.le_of_ble_eq_true rfl, Nat.le_of_ble_eq_true rfl⟩ ⟨Nat.le_of_ble_eq_true rfl, Nat.le_of_ble_eq_true rfl⟩ (fun _ h => h) (fun H h => ⟨⟨_, h.1⟩, cm_goes hmb h (k := 0) hv.1 he hcu5 (by omega)⟩) ?_
      refine mw_steps X 1 (pc' := 52) (lv' := [(2, .int (W (20 + e))), (0, .ref mb), (1, .int (nI e))]) (st' := [.int (W (20 + e))]) rfl ?_
      have hop : op_again W (nI e) = (W (20 + e), mo_goes W e cu 0 (W (20 + e))) := by unfold op_again; rw [if_pos (mo_bl_n he (by omega)), ml_n (by omega), if_pos c30, hcu, ml_n (by omega)]
      exact mw_iret X rfl rfl (fun H h => ⟨by rw [hop], by rw [hop]; exact h⟩)
    · refine mw_ldc X kk_X5_168 rfl ?_
      have hop : op_again W (nI e) = ((-1000000003), W) := by unfold op_again; rw [if_pos (mo_bl_n he (by omega)), ml_n (by omega), if_neg c30]
      exact mw_iret X rfl rfl (fun H h => ⟨by rw [hop], by rw [hop]; exact h⟩)
  · refine mw_ldc X kk_X5_147 rfl ?_
    have hop : op_again W x = ((-1000000001), W) := by unfold op_again; rw [if_neg (by rw [mo_b_z c4]; decide)]
    exact mw_iret X rfl rfl (fun H h => ⟨by rw [hop], by rw [hop]; exact h⟩)
set_option maxHeartbeats 4000000 in
set_option maxRecDepth 20000 in
theorem cm_tick {l : Launch} {Γ : mw_C} {mb : Nat} (hmb : Γ.2.2.2 ≤ mb) {W : Nat → Int32} {ρ : md_R} {H : Heap} {c : Nat} (hH : md_I Γ mb W ρ H) (hv : iv (c + 12) W) : mw_Cr l Γ mX5_tick 9 0 0 (md_A mb) [.ref mb] H (some (.int (mo_tick W 13))) (md_I Γ mb (mo_tick W) ρ) := by
  refine mw_ofG (P := pX5_tick) (by decide) (md_As hmb) oX5_tick (Nat.le_of_ble_eq_true rfl) ?_
  intro pg e0 sg mg below meth cd X hs
  refine mw_pre (I' := md_I Γ mb W ρ) (fun H1 h1 => by rw [h1]; exact hH) ?_
  refine mw_steps X 1 (pc' := 1) (lv' := [(0, .ref mb)]) (st' := [.ref mb]) rfl ?_
  refine mw_cV0r X kd_X5_tickNow kv_X5_tickNow kl_X5_189 (ci := 5) rfl rfl (Nat.le_of_ble_eq_true rfl) ⟨Nat.le_of_ble_eq_true rfl, Nat.le_of_ble_eq_true rfl⟩ ⟨Nat.le_of_ble_eq_true rfl, Nat.le_of_ble_eq_true rfl⟩ (fun _ h => h) (fun H h => ⟨⟨_, h.1⟩, cm_tickNow hmb h hv⟩) ?_
  exact mw_iret X rfl rfl (fun H h => ⟨rfl, h⟩)
