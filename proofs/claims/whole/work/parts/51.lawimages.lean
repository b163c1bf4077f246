section LC
variable {Γ : mw_C} {p : Program} {l : Launch} {e : Env} {s : State} {m : MethodId} {below : List Frame} {meth : Method} {c : Code} {Q : State → Prop} {b L x i : Nat} {xs : Nat → Int32} {W : Nat → Int32} {ρ : md_R} {im : Nat → Option Nat}
set_option maxHeartbeats 400000 in
set_option maxRecDepth 20000 in
theorem lw_case23U (X : mw_Ok Γ p s m #[Value.ref b] meth c (fun q => s.heap.size ≤ q) (lw_d meth.name) pL_h) (hx : Γ.2.2.2 ≤ x) (hxs : s.heap.size ≤ x) (hX : va_X b L xs s s.heap) (hbl : b < s.heap.size) (hL : L ≤ 3072) (hi : 6 * i + 6 ≤ L) (hP : lwP i W ρ im) (hy : mo_bl (xs (6 * i + 1)) 2 = false) (back : ∀ (W' : Nat → Int32) (ρ' : md_R) (im' : Nat → Option Nat), lwP (i + 1) W' ρ' im' → lwG Γ p l e s m below meth c Q b x (i + 1) W' ρ' im' 18) : lwG Γ p l e s m below meth c Q b x i W ρ im 757 := by
  have hmb : Γ.2.2.2 ≤ x + 30 := by omega
  replace X := X.with oL_c23
  unfold lwG at back ⊢
  refine mw_pre (I' := HH Γ x W ρ im (iV W) ρ.2.2.1 W ρ) (fun H h => h) ?_
  have hU : op_keep W ρ (xs (6 * i + 1)) = (oU, W, ρ) := by unfold op_keep; rw [hy, if_neg (by decide)]
  have hans : oU = (op_keep W ρ (xs (6 * i + 1))).1 := by rw [hU]
  refine mw_steps X 5 (pc' := 762) (lv' := [(3, .int (nI (6 * i))), (2, .ref (x + 30)), (1, .ref x), (0, .ref b)]) (st' := [.int ((nI (6 * i)) + (nI 1)), .ref b, .ref x]) rfl ?_
  refine mw_sld X hX hbl (Nat.not_le.mpr hbl) (6 * i + 1) (by rw [nI_add]) (by omega) hL rfl ?_
  refine mw_cV1r X kd_X4_keep kv_X4_keep kl_L_110 (ci := 4) rfl rfl (Nat.le_of_ble_eq_true rfl) ⟨Nat.le_of_ble_eq_true rfl, Nat.le_of_ble_eq_true rfl⟩ ⟨by show _ ≤ room_1.cells; have := lw_capC; omega, by show _ ≤ room_1.slots; have := lw_capS; omega⟩ (fun q z => z.elim) (fun H h => ⟨⟨_, h.1.1⟩, lc_keepU hx h hy⟩) ?_
  refine mw_steps X 5 (pc' := 771) (lv' := [(3, .int (nI (6 * i))), (2, .ref (x + 30)), (1, .ref x), (0, .ref b)]) (st' := [.int ((nI (6 * i)) + (nI 1)), .ref b, .ref (x + 30), .int oU]) rfl ?_
  refine mw_sld X hX hbl (Nat.not_le.mpr hbl) (6 * i + 1) (by rw [nI_add]) (by omega) hL rfl ?_
  refine mw_cV1r X kd_X5_keep kv_X5_keep kl_L_113 (ci := 5) rfl rfl (Nat.le_of_ble_eq_true rfl) ⟨Nat.le_of_ble_eq_true rfl, Nat.le_of_ble_eq_true rfl⟩ ⟨by show _ ≤ room_1.cells; have := lw_capC; omega, by show _ ≤ room_1.slots; have := lw_capS; omega⟩ (fun q z => Nat.le_trans (Nat.le_trans hxs (Nat.le_add_right x 30)) z.1) (fun H h => ⟨⟨_, h.2.2.2.1⟩, h.ref (cm_keepA hmb h.2.2.2)⟩) ?_
  refine mw_icmp_eq X 803 rfl rfl (fun c775 => ?_) (fun c775 => absurd hans c775)
  refine mw_steps X 2 (pc' := 18) (lv' := [(3, .int ((nI (6 * i)) + (nI 6))), (2, .ref (x + 30)), (1, .ref x), (0, .ref b)]) (st' := []) rfl ?_
  refine mw_lveq (lv' := [(3, .int (nI (6 * (i + 1)))), (2, .ref (x + 30)), (1, .ref x), (0, .ref b)]) (by rw [nI_add]; rfl) ?_
  refine mw_widen (ce' := 36 + 26 * (i + 1)) (sl' := 13859 + 4225 * (i + 1)) (by omega) (by omega) ?_
  refine mw_pre (I' := lwJ Γ x W ρ im) (fun H h => lwJ.of (by rw [hU] at h; exact h) (fun _ _ => rfl) rfl) ?_
  exact back W ρ im (hP.same (by omega))
set_option maxHeartbeats 400000 in
set_option maxRecDepth 20000 in
theorem lw_case23S (X : mw_Ok Γ p s m #[Value.ref b] meth c (fun q => s.heap.size ≤ q) (lw_d meth.name) pL_h) (hx : Γ.2.2.2 ≤ x) (hxs : s.heap.size ≤ x) (hX : va_X b L xs s s.heap) (hbl : b < s.heap.size) (hL : L ≤ 3072) (hi : 6 * i + 6 ≤ L) (hP : lwP i W ρ im) {k : Nat} (hk : k < 2) (hy : (xs (6 * i + 1)) = nI k) {a : Nat} (ha : im k = some a) (back : ∀ (W' : Nat → Int32) (ρ' : md_R) (im' : Nat → Option Nat), lwP (i + 1) W' ρ' im' → lwG Γ p l e s m below meth c Q b x (i + 1) W' ρ' im' 18) : lwG Γ p l e s m below meth c Q b x i W ρ im 757 := by
  have hmb : Γ.2.2.2 ≤ x + 30 := by omega
  replace X := X.with oL_c23
  unfold lwG at back ⊢
  refine mw_pre (I' := HH Γ x W ρ im (iV W) ρ.2.2.1 W ρ) (fun H h => h) ?_
  have hans : nI 1 = (op_keep W ρ (nI k)).1 := by rw [op_keep_e hk]
  refine mw_fact (F := x ≤ a) (fun H h => by have := (h.2.2.1 k hk a ha).1; omega) (fun hax => ?_)
  have hdd : ∀ k2, k2 < 2 → k2 ≠ k → ∀ a2, im k2 = some a2 → a + 26 ≤ a2 ∨ a2 + 26 ≤ a := by
    intro k2 hk2 hne a2 ha2
    have h9 := hP.2.2.2.2.2.2.2.2
    rcases (show (k = 0 ∧ k2 = 1) ∨ (k = 1 ∧ k2 = 0) by omega) with ⟨rfl, rfl⟩ | ⟨rfl, rfl⟩
    · exact h9 a a2 ha ha2
    · exact (h9 a2 a ha2 ha).symm
  refine mw_steps X 5 (pc' := 762) (lv' := [(3, .int (nI (6 * i))), (2, .ref (x + 30)), (1, .ref x), (0, .ref b)]) (st' := [.int ((nI (6 * i)) + (nI 1)), .ref b, .ref x]) rfl ?_
  refine mw_sld X hX hbl (Nat.not_le.mpr hbl) (6 * i + 1) (by rw [nI_add]) (by omega) hL rfl ?_
  refine mw_top (y := nI k) hy ?_
  refine mw_cV1r X kd_X4_keep kv_X4_keep kl_L_110 (ci := 4) rfl rfl (Nat.le_of_ble_eq_true rfl) ⟨Nat.le_of_ble_eq_true rfl, Nat.le_of_ble_eq_true rfl⟩ ⟨by show _ ≤ room_1.cells; have := lw_capC; omega, by show _ ≤ room_1.slots; have := lw_capS; omega⟩ (fun q z => Nat.le_trans (Nat.le_trans hxs (by have := hax; omega)) z.1) (fun H h => ⟨⟨_, h.1.1⟩, lc_keepS hx h hk ha hdd⟩) ?_
  refine mw_steps X 5 (pc' := 771) (lv' := [(3, .int (nI (6 * i))), (2, .ref (x + 30)), (1, .ref x), (0, .ref b)]) (st' := [.int ((nI (6 * i)) + (nI 1)), .ref b, .ref (x + 30), .int (nI 1)]) rfl ?_
  refine mw_sld X hX hbl (Nat.not_le.mpr hbl) (6 * i + 1) (by rw [nI_add]) (by omega) hL rfl ?_
  refine mw_top (y := nI k) hy ?_
  refine mw_cV1r X kd_X5_keep kv_X5_keep kl_L_113 (ci := 5) rfl rfl (Nat.le_of_ble_eq_true rfl) ⟨Nat.le_of_ble_eq_true rfl, Nat.le_of_ble_eq_true rfl⟩ ⟨by show _ ≤ room_1.cells; have := lw_capC; omega, by show _ ≤ room_1.slots; have := lw_capS; omega⟩ (fun q z => Nat.le_trans (Nat.le_trans hxs (Nat.le_add_right x 30)) z.1) (fun H h => ⟨⟨_, h.2.2.2.1⟩, h.ref (cm_keepA hmb h.2.2.2)⟩) ?_
  refine mw_icmp_eq X 803 rfl rfl (fun c775 => ?_) (fun c775 => absurd hans c775)
  refine mw_steps X 2 (pc' := 18) (lv' := [(3, .int ((nI (6 * i)) + (nI 6))), (2, .ref (x + 30)), (1, .ref x), (0, .ref b)]) (st' := []) rfl ?_
  refine mw_lveq (lv' := [(3, .int (nI (6 * (i + 1)))), (2, .ref (x + 30)), (1, .ref x), (0, .ref b)]) (by rw [nI_add]; rfl) ?_
  refine mw_widen (ce' := 36 + 26 * (i + 1)) (sl' := 13859 + 4225 * (i + 1)) (by omega) (by omega) ?_
  refine mw_pre (I' := lwJ Γ x ((op_keep W ρ (nI k)).2.1) ((op_keep W ρ (nI k)).2.2) im) (fun H h => lwJ.keep hk h) ?_
  exact back ((op_keep W ρ (nI k)).2.1) ((op_keep W ρ (nI k)).2.2) im (hP.keep (by omega) hk (fun _ _ => rfl) (by rw [ha]; exact Option.some_ne_none a) hP.2.2.2.2.2.2.2.2)
set_option maxHeartbeats 400000 in
set_option maxRecDepth 20000 in
theorem lw_case23N (X : mw_Ok Γ p s m #[Value.ref b] meth c (fun q => s.heap.size ≤ q) (lw_d meth.name) pL_h) (hx : Γ.2.2.2 ≤ x) (hxs : s.heap.size ≤ x) (hX : va_X b L xs s s.heap) (hbl : b < s.heap.size) (hL : L ≤ 3072) (hi : 6 * i + 6 ≤ L) (hP : lwP i W ρ im) {k : Nat} (hk : k < 2) (hy : (xs (6 * i + 1)) = nI k) (ha : im k = none) (back : ∀ (W' : Nat → Int32) (ρ' : md_R) (im' : Nat → Option Nat), lwP (i + 1) W' ρ' im' → lwG Γ p l e s m below meth c Q b x (i + 1) W' ρ' im' 18) : lwG Γ p l e s m below meth c Q b x i W ρ im 757 := by
  have hmb : Γ.2.2.2 ≤ x + 30 := by omega
  replace X := X.with oL_c23
  unfold lwG at back ⊢
  refine mw_pre (I' := HH Γ x W ρ im (iV W) ρ.2.2.1 W ρ) (fun H h => h) ?_
  have hans : nI 1 = (op_keep W ρ (nI k)).1 := by rw [op_keep_e hk]
  refine mw_steps X 5 (pc' := 762) (lv' := [(3, .int (nI (6 * i))), (2, .ref (x + 30)), (1, .ref x), (0, .ref b)]) (st' := [.int ((nI (6 * i)) + (nI 1)), .ref b, .ref x]) rfl ?_
  refine mw_sld X hX hbl (Nat.not_le.mpr hbl) (6 * i + 1) (by rw [nI_add]) (by omega) hL rfl ?_
  refine mw_top (y := nI k) hy ?_
  refine mw_cV1r X kd_X4_keep kv_X4_keep kl_L_110 (ci := 4) rfl rfl (Nat.le_of_ble_eq_true rfl) ⟨Nat.le_of_ble_eq_true rfl, Nat.le_of_ble_eq_true rfl⟩ ⟨by show _ ≤ room_1.cells; have := lw_capC; omega, by show _ ≤ room_1.slots; have := lw_capS; omega⟩ (fun q z => Nat.le_trans hxs (by have z2 : x + 29 ≤ q := z; omega)) (fun H h => ⟨⟨_, h.1.1⟩, lc_keepN hx h hk ha⟩) ?_
  refine mw_ex (fun hz => ?_)
  refine mw_and (fun hzd => ?_)
  refine mw_steps X 5 (pc' := 771) (lv' := [(3, .int (nI (6 * i))), (2, .ref (x + 30)), (1, .ref x), (0, .ref b)]) (st' := [.int ((nI (6 * i)) + (nI 1)), .ref b, .ref (x + 30), .int (nI 1)]) rfl ?_
  refine mw_sld X hX hbl (Nat.not_le.mpr hbl) (6 * i + 1) (by rw [nI_add]) (by omega) hL rfl ?_
  refine mw_top (y := nI k) hy ?_
  refine mw_cV1r X kd_X5_keep kv_X5_keep kl_L_113 (ci := 5) rfl rfl (Nat.le_of_ble_eq_true rfl) ⟨Nat.le_of_ble_eq_true rfl, Nat.le_of_ble_eq_true rfl⟩ ⟨by show _ ≤ room_1.cells; have := lw_capC; omega, by show _ ≤ room_1.slots; have := lw_capS; omega⟩ (fun q z => Nat.le_trans (Nat.le_trans hxs (Nat.le_add_right x 30)) z.1) (fun H h => ⟨⟨_, h.2.2.2.1⟩, h.ref (cm_keepA hmb h.2.2.2)⟩) ?_
  refine mw_icmp_eq X 803 rfl rfl (fun c775 => ?_) (fun c775 => absurd hans c775)
  refine mw_steps X 2 (pc' := 18) (lv' := [(3, .int ((nI (6 * i)) + (nI 6))), (2, .ref (x + 30)), (1, .ref x), (0, .ref b)]) (st' := []) rfl ?_
  refine mw_lveq (lv' := [(3, .int (nI (6 * (i + 1)))), (2, .ref (x + 30)), (1, .ref x), (0, .ref b)]) (by rw [nI_add]; rfl) ?_
  refine mw_widen (ce' := 36 + 26 * (i + 1)) (sl' := 13859 + 4225 * (i + 1)) (by omega) (by omega) ?_
  refine mw_pre (I' := lwJ Γ x ((op_keep W ρ (nI k)).2.1) ((op_keep W ρ (nI k)).2.2) (va_up im k (some hz))) (fun H h => lwJ.keep hk h) ?_
  exact back ((op_keep W ρ (nI k)).2.1) ((op_keep W ρ (nI k)).2.2) (va_up im k (some hz)) (hP.keep (by omega) hk (fun k2 hne => if_neg hne) (by unfold va_up; rw [if_pos rfl]; exact Option.some_ne_none hz) (lw_dis hk hzd))
set_option maxHeartbeats 400000 in
set_option maxRecDepth 20000 in
theorem lw_case24U (X : mw_Ok Γ p s m #[Value.ref b] meth c (fun q => s.heap.size ≤ q) (lw_d meth.name) pL_h) (hx : Γ.2.2.2 ≤ x) (hxs : s.heap.size ≤ x) (hX : va_X b L xs s s.heap) (hbl : b < s.heap.size) (hL : L ≤ 3072) (hi : 6 * i + 6 ≤ L) (hP : lwP i W ρ im) (hy : mo_bl (xs (6 * i + 1)) 2 = false) (back : ∀ (W' : Nat → Int32) (ρ' : md_R) (im' : Nat → Option Nat), lwP (i + 1) W' ρ' im' → lwG Γ p l e s m below meth c Q b x (i + 1) W' ρ' im' 18) : lwG Γ p l e s m below meth c Q b x i W ρ im 780 := by
  have hmb : Γ.2.2.2 ≤ x + 30 := by omega
  replace X := X.with oL_c24
  unfold lwG at back ⊢
  refine mw_pre (I' := HH Γ x W ρ im (iV W) ρ.2.2.1 W ρ) (fun H h => h) ?_
  have hU : op_goBack W ρ (xs (6 * i + 1)) = (oU, W, ρ) := by unfold op_goBack; rw [hy, if_neg (by decide)]
  have hans : oU = (op_goBack W ρ (xs (6 * i + 1))).1 := by rw [hU]
  refine mw_steps X 5 (pc' := 785) (lv' := [(3, .int (nI (6 * i))), (2, .ref (x + 30)), (1, .ref x), (0, .ref b)]) (st' := [.int ((nI (6 * i)) + (nI 1)), .ref b, .ref x]) rfl ?_
  refine mw_sld X hX hbl (Nat.not_le.mpr hbl) (6 * i + 1) (by rw [nI_add]) (by omega) hL rfl ?_
  refine mw_cV1r X kd_X4_goBack kv_X4_goBack kl_L_114 (ci := 4) rfl rfl (Nat.le_of_ble_eq_true rfl) ⟨Nat.le_of_ble_eq_true rfl, Nat.le_of_ble_eq_true rfl⟩ ⟨by show _ ≤ room_1.cells; have := lw_capC; omega, by show _ ≤ room_1.slots; have := lw_capS; omega⟩ (fun q z => z.elim) (fun H h => ⟨⟨_, h.1.1⟩, lc_backU hx h hy⟩) ?_
  refine mw_steps X 5 (pc' := 794) (lv' := [(3, .int (nI (6 * i))), (2, .ref (x + 30)), (1, .ref x), (0, .ref b)]) (st' := [.int ((nI (6 * i)) + (nI 1)), .ref b, .ref (x + 30), .int oU]) rfl ?_
  refine mw_sld X hX hbl (Nat.not_le.mpr hbl) (6 * i + 1) (by rw [nI_add]) (by omega) hL rfl ?_
  refine mw_cV1r X kd_X5_goBack kv_X5_goBack kl_L_117 (ci := 5) rfl rfl (Nat.le_of_ble_eq_true rfl) ⟨Nat.le_of_ble_eq_true rfl, Nat.le_of_ble_eq_true rfl⟩ ⟨by show _ ≤ room_1.cells; have := lw_capC; omega, by show _ ≤ room_1.slots; have := lw_capS; omega⟩ (fun q z => Nat.le_trans (Nat.le_trans hxs (Nat.le_add_right x 30)) z.1) (fun H h => ⟨⟨_, h.2.2.2.1⟩, h.ref (cm_goBack hmb h.2.2.2)⟩) ?_
  refine mw_icmp_eq X 803 rfl rfl (fun c798 => ?_) (fun c798 => absurd hans c798)
  refine mw_steps X 2 (pc' := 18) (lv' := [(3, .int ((nI (6 * i)) + (nI 6))), (2, .ref (x + 30)), (1, .ref x), (0, .ref b)]) (st' := []) rfl ?_
  refine mw_lveq (lv' := [(3, .int (nI (6 * (i + 1)))), (2, .ref (x + 30)), (1, .ref x), (0, .ref b)]) (by rw [nI_add]; rfl) ?_
  refine mw_widen (ce' := 36 + 26 * (i + 1)) (sl' := 13859 + 4225 * (i + 1)) (by omega) (by omega) ?_
  refine mw_pre (I' := lwJ Γ x W ρ im) (fun H h => lwJ.of (by rw [hU] at h; exact h) (fun _ _ => rfl) rfl) ?_
  exact back W ρ im (hP.same (by omega))
set_option maxHeartbeats 400000 in
set_option maxRecDepth 20000 in
theorem lw_case24N (X : mw_Ok Γ p s m #[Value.ref b] meth c (fun q => s.heap.size ≤ q) (lw_d meth.name) pL_h) (hx : Γ.2.2.2 ≤ x) (hxs : s.heap.size ≤ x) (hX : va_X b L xs s s.heap) (hbl : b < s.heap.size) (hL : L ≤ 3072) (hi : 6 * i + 6 ≤ L) (hP : lwP i W ρ im) {k : Nat} (hk : k < 2) (hy : (xs (6 * i + 1)) = nI k) (ha : im k = none) (back : ∀ (W' : Nat → Int32) (ρ' : md_R) (im' : Nat → Option Nat), lwP (i + 1) W' ρ' im' → lwG Γ p l e s m below meth c Q b x (i + 1) W' ρ' im' 18) : lwG Γ p l e s m below meth c Q b x i W ρ im 780 := by
  have hmb : Γ.2.2.2 ≤ x + 30 := by omega
  replace X := X.with oL_c24
  unfold lwG at back ⊢
  refine mw_pre (I' := HH Γ x W ρ im (iV W) ρ.2.2.1 W ρ) (fun H h => h) ?_
  have hU : op_goBack W ρ (nI k) = (oN, W, ρ) := op_back_n hk ((hP.2.2.2.2.2.2.1 k hk).mp ha)
  have hans : oN = (op_goBack W ρ (nI k)).1 := by rw [hU]
  refine mw_steps X 5 (pc' := 785) (lv' := [(3, .int (nI (6 * i))), (2, .ref (x + 30)), (1, .ref x), (0, .ref b)]) (st' := [.int ((nI (6 * i)) + (nI 1)), .ref b, .ref x]) rfl ?_
  refine mw_sld X hX hbl (Nat.not_le.mpr hbl) (6 * i + 1) (by rw [nI_add]) (by omega) hL rfl ?_
  refine mw_top (y := nI k) hy ?_
  refine mw_cV1r X kd_X4_goBack kv_X4_goBack kl_L_114 (ci := 4) rfl rfl (Nat.le_of_ble_eq_true rfl) ⟨Nat.le_of_ble_eq_true rfl, Nat.le_of_ble_eq_true rfl⟩ ⟨by show _ ≤ room_1.cells; have := lw_capC; omega, by show _ ≤ room_1.slots; have := lw_capS; omega⟩ (fun q z => z.elim) (fun H h => ⟨⟨_, h.1.1⟩, lc_backN hx h hk ha⟩) ?_
  refine mw_steps X 5 (pc' := 794) (lv' := [(3, .int (nI (6 * i))), (2, .ref (x + 30)), (1, .ref x), (0, .ref b)]) (st' := [.int ((nI (6 * i)) + (nI 1)), .ref b, .ref (x + 30), .int oN]) rfl ?_
  refine mw_sld X hX hbl (Nat.not_le.mpr hbl) (6 * i + 1) (by rw [nI_add]) (by omega) hL rfl ?_
  refine mw_top (y := nI k) hy ?_
  refine mw_cV1r X kd_X5_goBack kv_X5_goBack kl_L_117 (ci := 5) rfl rfl (Nat.le_of_ble_eq_true rfl) ⟨Nat.le_of_ble_eq_true rfl, Nat.le_of_ble_eq_true rfl⟩ ⟨by show _ ≤ room_1.cells; have := lw_capC; omega, by show _ ≤ room_1.slots; have := lw_capS; omega⟩ (fun q z => Nat.le_trans (Nat.le_trans hxs (Nat.le_add_right x 30)) z.1) (fun H h => ⟨⟨_, h.2.2.2.1⟩, h.ref (cm_goBack hmb h.2.2.2)⟩) ?_
  refine mw_icmp_eq X 803 rfl rfl (fun c798 => ?_) (fun c798 => absurd hans c798)
  refine mw_steps X 2 (pc' := 18) (lv' := [(3, .int ((nI (6 * i)) + (nI 6))), (2, .ref (x + 30)), (1, .ref x), (0, .ref b)]) (st' := []) rfl ?_
  refine mw_lveq (lv' := [(3, .int (nI (6 * (i + 1)))), (2, .ref (x + 30)), (1, .ref x), (0, .ref b)]) (by rw [nI_add]; rfl) ?_
  refine mw_widen (ce' := 36 + 26 * (i + 1)) (sl' := 13859 + 4225 * (i + 1)) (by omega) (by omega) ?_
  refine mw_pre (I' := lwJ Γ x W ρ im) (fun H h => lwJ.of (by rw [hU] at h; exact h) (fun _ _ => rfl) rfl) ?_
  exact back W ρ im (hP.same (by omega))
set_option maxHeartbeats 400000 in
set_option maxRecDepth 20000 in
theorem lw_case24S (X : mw_Ok Γ p s m #[Value.ref b] meth c (fun q => s.heap.size ≤ q) (lw_d meth.name) pL_h) (hx : Γ.2.2.2 ≤ x) (hxs : s.heap.size ≤ x) (hX : va_X b L xs s s.heap) (hbl : b < s.heap.size) (hL : L ≤ 3072) (hi : 6 * i + 6 ≤ L) (hP : lwP i W ρ im) {k : Nat} (hk : k < 2) (hy : (xs (6 * i + 1)) = nI k) {a : Nat} (ha : im k = some a) (back : ∀ (W' : Nat → Int32) (ρ' : md_R) (im' : Nat → Option Nat), lwP (i + 1) W' ρ' im' → lwG Γ p l e s m below meth c Q b x (i + 1) W' ρ' im' 18) : lwG Γ p l e s m below meth c Q b x i W ρ im 780 := by
  have hmb : Γ.2.2.2 ≤ x + 30 := by omega
  replace X := X.with oL_c24
  unfold lwG at back ⊢
  refine mw_pre (I' := HH Γ x W ρ im (iV W) ρ.2.2.1 W ρ) (fun H h => h) ?_
  have hbit : ¬ (ρ.1 >>> (nI k &&& 31)) &&& nI 1 = 0 := fun q => by have := (hP.2.2.2.2.2.2.1 k hk).mpr q; rw [ha] at this; cases this
  have hans : nI 1 = (op_goBack W ρ (nI k)).1 := by rw [op_back_e hk hbit]
  refine mw_steps X 5 (pc' := 785) (lv' := [(3, .int (nI (6 * i))), (2, .ref (x + 30)), (1, .ref x), (0, .ref b)]) (st' := [.int ((nI (6 * i)) + (nI 1)), .ref b, .ref x]) rfl ?_
  refine mw_sld X hX hbl (Nat.not_le.mpr hbl) (6 * i + 1) (by rw [nI_add]) (by omega) hL rfl ?_
  refine mw_top (y := nI k) hy ?_
  refine mw_cV1r X kd_X4_goBack kv_X4_goBack kl_L_114 (ci := 4) rfl rfl (Nat.le_of_ble_eq_true rfl) ⟨Nat.le_of_ble_eq_true rfl, Nat.le_of_ble_eq_true rfl⟩ ⟨by show _ ≤ room_1.cells; have := lw_capC; omega, by show _ ≤ room_1.slots; have := lw_capS; omega⟩ (fun q z => Nat.le_trans hxs z.1) (fun H h => ⟨⟨_, h.1.1⟩, lc_backS hx h hk ha⟩) ?_
  refine mw_steps X 5 (pc' := 794) (lv' := [(3, .int (nI (6 * i))), (2, .ref (x + 30)), (1, .ref x), (0, .ref b)]) (st' := [.int ((nI (6 * i)) + (nI 1)), .ref b, .ref (x + 30), .int (nI 1)]) rfl ?_
  refine mw_sld X hX hbl (Nat.not_le.mpr hbl) (6 * i + 1) (by rw [nI_add]) (by omega) hL rfl ?_
  refine mw_top (y := nI k) hy ?_
  refine mw_cV1r X kd_X5_goBack kv_X5_goBack kl_L_117 (ci := 5) rfl rfl (Nat.le_of_ble_eq_true rfl) ⟨Nat.le_of_ble_eq_true rfl, Nat.le_of_ble_eq_true rfl⟩ ⟨by show _ ≤ room_1.cells; have := lw_capC; omega, by show _ ≤ room_1.slots; have := lw_capS; omega⟩ (fun q z => Nat.le_trans (Nat.le_trans hxs (Nat.le_add_right x 30)) z.1) (fun H h => ⟨⟨_, h.2.2.2.1⟩, h.ref (cm_goBack hmb h.2.2.2)⟩) ?_
  refine mw_icmp_eq X 803 rfl rfl (fun c798 => ?_) (fun c798 => absurd hans c798)
  refine mw_steps X 2 (pc' := 18) (lv' := [(3, .int ((nI (6 * i)) + (nI 6))), (2, .ref (x + 30)), (1, .ref x), (0, .ref b)]) (st' := []) rfl ?_
  refine mw_lveq (lv' := [(3, .int (nI (6 * (i + 1)))), (2, .ref (x + 30)), (1, .ref x), (0, .ref b)]) (by rw [nI_add]; rfl) ?_
  refine mw_widen (ce' := 36 + 26 * (i + 1)) (sl' := 13859 + 4225 * (i + 1)) (by omega) (by omega) ?_
  refine mw_pre (I' := lwJ Γ x ((op_goBack W ρ (nI k)).2.1) ((op_goBack W ρ (nI k)).2.2) im) (fun H h => lwJ.back hk hbit h) ?_
  exact back ((op_goBack W ρ (nI k)).2.1) ((op_goBack W ρ (nI k)).2.2) im (hP.back (by omega) hk ha hbit)
end LC
