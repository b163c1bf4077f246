theorem lw_iv_write {ρ : md_R} {x y z : Int32} (h : iv_k ρ) : iv_k (op_write ρ x y z).2 := by
  unfold op_write
  split
  · next hx =>
    split
    · next hyz =>
      split
      · exact h
      · next hn =>
        obtain ⟨n, n1, n2, n3⟩ := h
        obtain ⟨e, he, rfl⟩ := mo_bl_t hx (by omega)
        obtain ⟨v, hv, rfl⟩ := mo_bl_t hyz.1 (by omega)
        obtain ⟨w, hw, rfl⟩ := mo_bl_t hyz.2 (by omega)
        have hn20 : n < 20 := by rw [n2, nI_eq (by omega) (by omega)] at hn; omega
        have hnn : mo_n ρ.2.2.2.2.2.2 = n := by rw [n2, ml_n (by omega)]
        refine ⟨n + 1, by omega, by dsimp only; rw [n2, nI_add], fun k hk => ?_⟩
        dsimp only
        rw [hnn]
        by_cases q : k = n
        · subst q; rw [pk_us, pk_us, pk_us]; exact ⟨e, v, w, he, hv, hw, rfl, rfl, rfl⟩
        · rw [pk_un q, pk_un q, pk_un q]; exact n3 k (by omega)
    · exact h
  · exact h
theorem lw_iv_tear {ρ : md_R} : iv_k (op_tear ρ).2 := ⟨0, by omega, rfl, fun k hk => absurd hk (Nat.not_lt_zero k)⟩
theorem lw_keep_write {ρ : md_R} {x y z : Int32} : (op_write ρ x y z).2.1 = ρ.1 ∧ (op_write ρ x y z).2.2.1 = ρ.2.1 ∧ (op_write ρ x y z).2.2.2.1 = ρ.2.2.1 := by
  unfold op_write
  split
  · split
    · split <;> exact ⟨rfl, rfl, rfl⟩
    · exact ⟨rfl, rfl, rfl⟩
  · exact ⟨rfl, rfl, rfl⟩
theorem lw_keep_seed {ρ : md_R} {x : Int32} (hs : 0 ≤ ρ.2.1) (hk : iv_k ρ) : (op_seed ρ x).2.1 = ρ.1 ∧ 0 ≤ (op_seed ρ x).2.2.1 ∧ (op_seed ρ x).2.2.2.1 = ρ.2.2.1 ∧ iv_k (op_seed ρ x).2 := by
  unfold op_seed
  split
  · next h => exact ⟨rfl, h, rfl, hk⟩
  · exact ⟨rfl, hs, rfl, hk⟩
theorem lw_drift {i : Nat} {W : Nat → Int32} {ρ : md_R} {im : Nat → Option Nat} {y : Int32} (h : lwP i W ρ im) (hi : i < 512) : rl 120 20 W (op_drift W ρ.2.1 y).2.1 ∧ iv 0 (op_drift W ρ.2.1 y).2.1 ∧ 0 ≤ (op_drift W ρ.2.1 y).2.2 := by
  have hd := rop_dr h.1 h.2.2.1 (20 * i) (by have := h.2.2.2.1; omega) h.2.2.2.2.1
  unfold op_drift
  split
  · next hin =>
    obtain ⟨n, n1, n2, rfl⟩ := ml_in20 hin
    rw [ml_n (by omega)]
    obtain ⟨a1, a2, a3⟩ := hd n (by omega)
    exact ⟨a3.mono (by omega) (by omega), a1.less (by omega), a2⟩
  · exact ⟨rl.rfl', h.1.less (by omega), h.2.2.1⟩
/-- the law's walk at its loop: where the calls are told by i, W, ρ, im -/
def lwG (Γ : mw_C) (p : Program) (l : Launch) (e : Env) (s : State) (m : MethodId) (below : List Frame) (meth : Method) (c : Code) (Q : State → Prop) (b x i : Nat) (W : Nat → Int32) (ρ : md_R) (im : Nat → Option Nat) (pc : Nat) : Prop := mw_G p l e room_1 s m #[Value.ref b] below meth c (fun q => s.heap.size ≤ q) (lw_d meth.name).2.2.1 Q (lwJ Γ x W ρ im) (36 + 26 * i) (13859 + 4225 * i) pc [(3, .int (nI (6 * i))), (2, .ref (x + 30)), (1, .ref x), (0, .ref b)] []
theorem lw_dis {im : Nat → Option Nat} {k hz : Nat} (hk : k < 2) (h : ∀ k2, k2 < 2 → k2 ≠ k → ∀ a2, im k2 = some a2 → a2 + 26 ≤ hz) : ∀ a0 a1, va_up im k (some hz) 0 = some a0 → va_up im k (some hz) 1 = some a1 → a0 + 26 ≤ a1 ∨ a1 + 26 ≤ a0 := by
  intro a0 a1 h0 h1
  unfold va_up at h0 h1
  rcases (show k = 0 ∨ k = 1 by omega) with rfl | rfl
  · rw [if_pos rfl] at h0
    rw [if_neg (by decide)] at h1
    cases h0
    exact Or.inr (h 1 (by omega) (by omega) a1 h1)
  · rw [if_neg (by decide)] at h0
    rw [if_pos rfl] at h1
    cases h1
    exact Or.inl (h 0 (by omega) (by omega) a0 h0)
section LC
variable {Γ : mw_C} {p : Program} {l : Launch} {e : Env} {s : State} {m : MethodId} {below : List Frame} {meth : Method} {c : Code} {Q : State → Prop} {b L x i : Nat} {xs : Nat → Int32} {W : Nat → Int32} {ρ : md_R} {im : Nat → Option Nat}
set_option maxHeartbeats 400000 in
set_option maxRecDepth 20000 in
theorem lw_case0 (X : mw_Ok Γ p s m #[Value.ref b] meth c (fun q => s.heap.size ≤ q) (lw_d meth.name) pL_h) (hx : Γ.2.2.2 ≤ x) (hxs : s.heap.size ≤ x) (hX : va_X b L xs s s.heap) (hbl : b < s.heap.size) (hL : L ≤ 3072) (hi : 6 * i + 6 ≤ L) (hP : lwP i W ρ im) (back : ∀ (W' : Nat → Int32) (ρ' : md_R) (im' : Nat → Option Nat), lwP (i + 1) W' ρ' im' → lwG Γ p l e s m below meth c Q b x (i + 1) W' ρ' im' 18) : lwG Γ p l e s m below meth c Q b x i W ρ im 148 := by
  have hmb : Γ.2.2.2 ≤ x + 30 := by omega
  replace X := X.with oL_c0
  unfold lwG at back ⊢
  refine mw_pre (I' := HH Γ x W ρ im (iV W) ρ.2.2.1 W ρ) (fun H h => h) ?_
  refine mw_steps X 5 (pc' := 153) (lv' := [(3, .int (nI (6 * i))), (2, .ref (x + 30)), (1, .ref x), (0, .ref b)]) (st' := [.int ((nI (6 * i)) + (nI 1)), .ref b, .ref x]) rfl ?_
  refine mw_sld X hX hbl (Nat.not_le.mpr hbl) (6 * i + 1) (by rw [nI_add]) (by omega) hL rfl ?_
  refine mw_cV1r X kd_X4_told kv_X4_told kl_L_13 (ci := 4) rfl rfl (Nat.le_of_ble_eq_true rfl) ⟨Nat.le_of_ble_eq_true rfl, Nat.le_of_ble_eq_true rfl⟩ ⟨by show _ ≤ room_1.cells; have := lw_capC; omega, by show _ ≤ room_1.slots; have := lw_capS; omega⟩ (fun q z => Nat.le_trans hxs z.1) (fun H h => ⟨⟨_, h.1.1⟩, h.cls (zx_told hx h.1 hP.1 hP.2.1)⟩) ?_
  refine mw_steps X 5 (pc' := 162) (lv' := [(3, .int (nI (6 * i))), (2, .ref (x + 30)), (1, .ref x), (0, .ref b)]) (st' := [.int ((nI (6 * i)) + (nI 1)), .ref b, .ref (x + 30), .int (op_told W ρ (xs (6 * i + 1)))]) rfl ?_
  refine mw_sld X hX hbl (Nat.not_le.mpr hbl) (6 * i + 1) (by rw [nI_add]) (by omega) hL rfl ?_
  refine mw_cV1r X kd_X5_told kv_X5_told kl_L_17 (ci := 5) rfl rfl (Nat.le_of_ble_eq_true rfl) ⟨Nat.le_of_ble_eq_true rfl, Nat.le_of_ble_eq_true rfl⟩ ⟨by show _ ≤ room_1.cells; have := lw_capC; omega, by show _ ≤ room_1.slots; have := lw_capS; omega⟩ (fun q z => Nat.le_trans (Nat.le_trans hxs (Nat.le_add_right x 30)) z.1) (fun H h => ⟨⟨_, h.2.2.2.1⟩, h.ref (cm_told hmb h.2.2.2 hP.1 hP.2.1)⟩) ?_
  refine mw_icmp_eq X 803 rfl rfl (fun c166 => ?_) (fun c166 => absurd rfl c166)
  refine mw_steps X 2 (pc' := 18) (lv' := [(3, .int ((nI (6 * i)) + (nI 6))), (2, .ref (x + 30)), (1, .ref x), (0, .ref b)]) (st' := []) rfl ?_
  refine mw_lveq (lv' := [(3, .int (nI (6 * (i + 1)))), (2, .ref (x + 30)), (1, .ref x), (0, .ref b)]) (by rw [nI_add]; rfl) ?_
  refine mw_widen (ce' := 36 + 26 * (i + 1)) (sl' := 13859 + 4225 * (i + 1)) (by omega) (by omega) ?_
  refine mw_pre (I' := lwJ Γ x W ρ im) (fun H h => lwJ.of h (fun _ _ => rfl) rfl) ?_
  exact back W ρ im (hP.same (by omega))
set_option maxHeartbeats 400000 in
set_option maxRecDepth 20000 in
theorem lw_case1 (X : mw_Ok Γ p s m #[Value.ref b] meth c (fun q => s.heap.size ≤ q) (lw_d meth.name) pL_h) (hx : Γ.2.2.2 ≤ x) (hxs : s.heap.size ≤ x) (hX : va_X b L xs s s.heap) (hbl : b < s.heap.size) (hL : L ≤ 3072) (hi : 6 * i + 6 ≤ L) (hP : lwP i W ρ im) (back : ∀ (W' : Nat → Int32) (ρ' : md_R) (im' : Nat → Option Nat), lwP (i + 1) W' ρ' im' → lwG Γ p l e s m below meth c Q b x (i + 1) W' ρ' im' 18) : lwG Γ p l e s m below meth c Q b x i W ρ im 171 := by
  have hmb : Γ.2.2.2 ≤ x + 30 := by omega
  replace X := X.with oL_c1
  unfold lwG at back ⊢
  refine mw_pre (I' := HH Γ x W ρ im (iV W) ρ.2.2.1 W ρ) (fun H h => h) ?_
  refine mw_steps X 5 (pc' := 176) (lv' := [(3, .int (nI (6 * i))), (2, .ref (x + 30)), (1, .ref x), (0, .ref b)]) (st' := [.int ((nI (6 * i)) + (nI 1)), .ref b, .ref x]) rfl ?_
  refine mw_sld X hX hbl (Nat.not_le.mpr hbl) (6 * i + 1) (by rw [nI_add]) (by omega) hL rfl ?_
  refine mw_steps X 4 (pc' := 181) (lv' := [(3, .int (nI (6 * i))), (2, .ref (x + 30)), (1, .ref x), (0, .ref b)]) (st' := [.int ((nI (6 * i)) + (nI 2)), .ref b, .int (xs (6 * i + 1)), .ref x]) rfl ?_
  refine mw_sld X hX hbl (Nat.not_le.mpr hbl) (6 * i + 2) (by rw [nI_add]) (by omega) hL rfl ?_
  refine mw_cV2r X kd_X4_end kv_X4_end kl_L_18 (ci := 4) rfl rfl (Nat.le_of_ble_eq_true rfl) ⟨Nat.le_of_ble_eq_true rfl, Nat.le_of_ble_eq_true rfl⟩ ⟨by show _ ≤ room_1.cells; have := lw_capC; omega, by show _ ≤ room_1.slots; have := lw_capS; omega⟩ (fun q z => Nat.le_trans hxs z.1) (fun H h => ⟨⟨_, h.1.1⟩, h.cls (zx_end hx h.1)⟩) ?_
  refine mw_steps X 5 (pc' := 190) (lv' := [(3, .int (nI (6 * i))), (2, .ref (x + 30)), (1, .ref x), (0, .ref b)]) (st' := [.int ((nI (6 * i)) + (nI 1)), .ref b, .ref (x + 30), .int (op_end W (xs (6 * i + 1)) (xs (6 * i + 2)))]) rfl ?_
  refine mw_sld X hX hbl (Nat.not_le.mpr hbl) (6 * i + 1) (by rw [nI_add]) (by omega) hL rfl ?_
  refine mw_steps X 4 (pc' := 195) (lv' := [(3, .int (nI (6 * i))), (2, .ref (x + 30)), (1, .ref x), (0, .ref b)]) (st' := [.int ((nI (6 * i)) + (nI 2)), .ref b, .int (xs (6 * i + 1)), .ref (x + 30), .int (op_end W (xs (6 * i + 1)) (xs (6 * i + 2)))]) rfl ?_
  refine mw_sld X hX hbl (Nat.not_le.mpr hbl) (6 * i + 2) (by rw [nI_add]) (by omega) hL rfl ?_
  refine mw_cV2r X kd_X5_end kv_X5_end kl_L_22 (ci := 5) rfl rfl (Nat.le_of_ble_eq_true rfl) ⟨Nat.le_of_ble_eq_true rfl, Nat.le_of_ble_eq_true rfl⟩ ⟨by show _ ≤ room_1.cells; have := lw_capC; omega, by show _ ≤ room_1.slots; have := lw_capS; omega⟩ (fun q z => Nat.le_trans (Nat.le_trans hxs (Nat.le_add_right x 30)) z.1) (fun H h => ⟨⟨_, h.2.2.2.1⟩, h.ref (cm_end hmb h.2.2.2 hP.1)⟩) ?_
  refine mw_icmp_eq X 803 rfl rfl (fun c199 => ?_) (fun c199 => absurd rfl c199)
  refine mw_steps X 2 (pc' := 18) (lv' := [(3, .int ((nI (6 * i)) + (nI 6))), (2, .ref (x + 30)), (1, .ref x), (0, .ref b)]) (st' := []) rfl ?_
  refine mw_lveq (lv' := [(3, .int (nI (6 * (i + 1)))), (2, .ref (x + 30)), (1, .ref x), (0, .ref b)]) (by rw [nI_add]; rfl) ?_
  refine mw_widen (ce' := 36 + 26 * (i + 1)) (sl' := 13859 + 4225 * (i + 1)) (by omega) (by omega) ?_
  refine mw_pre (I' := lwJ Γ x W ρ im) (fun H h => lwJ.of h (fun _ _ => rfl) rfl) ?_
  exact back W ρ im (hP.same (by omega))
set_option maxHeartbeats 400000 in
set_option maxRecDepth 20000 in
theorem lw_case2 (X : mw_Ok Γ p s m #[Value.ref b] meth c (fun q => s.heap.size ≤ q) (lw_d meth.name) pL_h) (hx : Γ.2.2.2 ≤ x) (hxs : s.heap.size ≤ x) (hX : va_X b L xs s s.heap) (hbl : b < s.heap.size) (hL : L ≤ 3072) (hi : 6 * i + 6 ≤ L) (hP : lwP i W ρ im) (back : ∀ (W' : Nat → Int32) (ρ' : md_R) (im' : Nat → Option Nat), lwP (i + 1) W' ρ' im' → lwG Γ p l e s m below meth c Q b x (i + 1) W' ρ' im' 18) : lwG Γ p l e s m below meth c Q b x i W ρ im 204 := by
  have hmb : Γ.2.2.2 ≤ x + 30 := by omega
  replace X := X.with oL_c2
  unfold lwG at back ⊢
  refine mw_pre (I' := HH Γ x W ρ im (iV W) ρ.2.2.1 W ρ) (fun H h => h) ?_
  refine mw_steps X 5 (pc' := 209) (lv' := [(3, .int (nI (6 * i))), (2, .ref (x + 30)), (1, .ref x), (0, .ref b)]) (st' := [.int ((nI (6 * i)) + (nI 1)), .ref b, .ref x]) rfl ?_
  refine mw_sld X hX hbl (Nat.not_le.mpr hbl) (6 * i + 1) (by rw [nI_add]) (by omega) hL rfl ?_
  refine mw_steps X 4 (pc' := 214) (lv' := [(3, .int (nI (6 * i))), (2, .ref (x + 30)), (1, .ref x), (0, .ref b)]) (st' := [.int ((nI (6 * i)) + (nI 2)), .ref b, .int (xs (6 * i + 1)), .ref x]) rfl ?_
  refine mw_sld X hX hbl (Nat.not_le.mpr hbl) (6 * i + 2) (by rw [nI_add]) (by omega) hL rfl ?_
  refine mw_cV2r X kd_X4_place kv_X4_place kl_L_23 (ci := 4) rfl rfl (Nat.le_of_ble_eq_true rfl) ⟨Nat.le_of_ble_eq_true rfl, Nat.le_of_ble_eq_true rfl⟩ ⟨by show _ ≤ room_1.cells; have := lw_capC; omega, by show _ ≤ room_1.slots; have := lw_capS; omega⟩ (fun q z => Nat.le_trans hxs z.1) (fun H h => ⟨⟨_, h.1.1⟩, h.cls (zx_place hx h.1 hP.1)⟩) ?_
  refine mw_steps X 5 (pc' := 223) (lv' := [(3, .int (nI (6 * i))), (2, .ref (x + 30)), (1, .ref x), (0, .ref b)]) (st' := [.int ((nI (6 * i)) + (nI 1)), .ref b, .ref (x + 30), .int (op_place W (xs (6 * i + 1)) (xs (6 * i + 2)))]) rfl ?_
  refine mw_sld X hX hbl (Nat.not_le.mpr hbl) (6 * i + 1) (by rw [nI_add]) (by omega) hL rfl ?_
  refine mw_steps X 4 (pc' := 228) (lv' := [(3, .int (nI (6 * i))), (2, .ref (x + 30)), (1, .ref x), (0, .ref b)]) (st' := [.int ((nI (6 * i)) + (nI 2)), .ref b, .int (xs (6 * i + 1)), .ref (x + 30), .int (op_place W (xs (6 * i + 1)) (xs (6 * i + 2)))]) rfl ?_
  refine mw_sld X hX hbl (Nat.not_le.mpr hbl) (6 * i + 2) (by rw [nI_add]) (by omega) hL rfl ?_
  refine mw_cV2r X kd_X5_place kv_X5_place kl_L_26 (ci := 5) rfl rfl (Nat.le_of_ble_eq_true rfl) ⟨Nat.le_of_ble_eq_true rfl, Nat.le_of_ble_eq_true rfl⟩ ⟨by show _ ≤ room_1.cells; have := lw_capC; omega, by show _ ≤ room_1.slots; have := lw_capS; omega⟩ (fun q z => Nat.le_trans (Nat.le_trans hxs (Nat.le_add_right x 30)) z.1) (fun H h => ⟨⟨_, h.2.2.2.1⟩, h.ref (cm_place hmb h.2.2.2 hP.1)⟩) ?_
  refine mw_icmp_eq X 803 rfl rfl (fun c232 => ?_) (fun c232 => absurd rfl c232)
  refine mw_steps X 2 (pc' := 18) (lv' := [(3, .int ((nI (6 * i)) + (nI 6))), (2, .ref (x + 30)), (1, .ref x), (0, .ref b)]) (st' := []) rfl ?_
  refine mw_lveq (lv' := [(3, .int (nI (6 * (i + 1)))), (2, .ref (x + 30)), (1, .ref x), (0, .ref b)]) (by rw [nI_add]; rfl) ?_
  refine mw_widen (ce' := 36 + 26 * (i + 1)) (sl' := 13859 + 4225 * (i + 1)) (by omega) (by omega) ?_
  refine mw_pre (I' := lwJ Γ x W ρ im) (fun H h => lwJ.of h (fun _ _ => rfl) rfl) ?_
  exact back W ρ im (hP.same (by omega))
set_option maxHeartbeats 400000 in
set_option maxRecDepth 20000 in
theorem lw_case3 (X : mw_Ok Γ p s m #[Value.ref b] meth c (fun q => s.heap.size ≤ q) (lw_d meth.name) pL_h) (hx : Γ.2.2.2 ≤ x) (hxs : s.heap.size ≤ x) (hX : va_X b L xs s s.heap) (hbl : b < s.heap.size) (hL : L ≤ 3072) (hi : 6 * i + 6 ≤ L) (hP : lwP i W ρ im) (back : ∀ (W' : Nat → Int32) (ρ' : md_R) (im' : Nat → Option Nat), lwP (i + 1) W' ρ' im' → lwG Γ p l e s m below meth c Q b x (i + 1) W' ρ' im' 18) : lwG Γ p l e s m below meth c Q b x i W ρ im 237 := by
  have hmb : Γ.2.2.2 ≤ x + 30 := by omega
  replace X := X.with oL_c3
  unfold lwG at back ⊢
  refine mw_pre (I' := HH Γ x W ρ im (iV W) ρ.2.2.1 W ρ) (fun H h => h) ?_
  refine mw_steps X 5 (pc' := 242) (lv' := [(3, .int (nI (6 * i))), (2, .ref (x + 30)), (1, .ref x), (0, .ref b)]) (st' := [.int ((nI (6 * i)) + (nI 1)), .ref b, .ref x]) rfl ?_
  refine mw_sld X hX hbl (Nat.not_le.mpr hbl) (6 * i + 1) (by rw [nI_add]) (by omega) hL rfl ?_
  refine mw_steps X 4 (pc' := 247) (lv' := [(3, .int (nI (6 * i))), (2, .ref (x + 30)), (1, .ref x), (0, .ref b)]) (st' := [.int ((nI (6 * i)) + (nI 2)), .ref b, .int (xs (6 * i + 1)), .ref x]) rfl ?_
  refine mw_sld X hX hbl (Nat.not_le.mpr hbl) (6 * i + 2) (by rw [nI_add]) (by omega) hL rfl ?_
  refine mw_cV2r X kd_X4_letter kv_X4_letter kl_L_27 (ci := 4) rfl rfl (Nat.le_of_ble_eq_true rfl) ⟨Nat.le_of_ble_eq_true rfl, Nat.le_of_ble_eq_true rfl⟩ ⟨by show _ ≤ room_1.cells; have := lw_capC; omega, by show _ ≤ room_1.slots; have := lw_capS; omega⟩ (fun q z => Nat.le_trans hxs z.1) (fun H h => ⟨⟨_, h.1.1⟩, h.cls (zx_letter hx h.1)⟩) ?_
  refine mw_steps X 5 (pc' := 256) (lv' := [(3, .int (nI (6 * i))), (2, .ref (x + 30)), (1, .ref x), (0, .ref b)]) (st' := [.int ((nI (6 * i)) + (nI 1)), .ref b, .ref (x + 30), .int (op_letter W (xs (6 * i + 1)) (xs (6 * i + 2)))]) rfl ?_
  refine mw_sld X hX hbl (Nat.not_le.mpr hbl) (6 * i + 1) (by rw [nI_add]) (by omega) hL rfl ?_
  refine mw_steps X 4 (pc' := 261) (lv' := [(3, .int (nI (6 * i))), (2, .ref (x + 30)), (1, .ref x), (0, .ref b)]) (st' := [.int ((nI (6 * i)) + (nI 2)), .ref b, .int (xs (6 * i + 1)), .ref (x + 30), .int (op_letter W (xs (6 * i + 1)) (xs (6 * i + 2)))]) rfl ?_
  refine mw_sld X hX hbl (Nat.not_le.mpr hbl) (6 * i + 2) (by rw [nI_add]) (by omega) hL rfl ?_
  refine mw_cV2r X kd_X5_letter kv_X5_letter kl_L_30 (ci := 5) rfl rfl (Nat.le_of_ble_eq_true rfl) ⟨Nat.le_of_ble_eq_true rfl, Nat.le_of_ble_eq_true rfl⟩ ⟨by show _ ≤ room_1.cells; have := lw_capC; omega, by show _ ≤ room_1.slots; have := lw_capS; omega⟩ (fun q z => Nat.le_trans (Nat.le_trans hxs (Nat.le_add_right x 30)) z.1) (fun H h => ⟨⟨_, h.2.2.2.1⟩, h.ref (cm_letter hmb h.2.2.2 hP.1)⟩) ?_
  refine mw_icmp_eq X 803 rfl rfl (fun c265 => ?_) (fun c265 => absurd rfl c265)
  refine mw_steps X 2 (pc' := 18) (lv' := [(3, .int ((nI (6 * i)) + (nI 6))), (2, .ref (x + 30)), (1, .ref x), (0, .ref b)]) (st' := []) rfl ?_
  refine mw_lveq (lv' := [(3, .int (nI (6 * (i + 1)))), (2, .ref (x + 30)), (1, .ref x), (0, .ref b)]) (by rw [nI_add]; rfl) ?_
  refine mw_widen (ce' := 36 + 26 * (i + 1)) (sl' := 13859 + 4225 * (i + 1)) (by omega) (by omega) ?_
  refine mw_pre (I' := lwJ Γ x W ρ im) (fun H h => lwJ.of h (fun _ _ => rfl) rfl) ?_
  exact back W ρ im (hP.same (by omega))
set_option maxHeartbeats 400000 in
set_option maxRecDepth 20000 in
theorem lw_case4 (X : mw_Ok Γ p s m #[Value.ref b] meth c (fun q => s.heap.size ≤ q) (lw_d meth.name) pL_h) (hx : Γ.2.2.2 ≤ x) (hxs : s.heap.size ≤ x) (hX : va_X b L xs s s.heap) (hbl : b < s.heap.size) (hL : L ≤ 3072) (hi : 6 * i + 6 ≤ L) (hP : lwP i W ρ im) (back : ∀ (W' : Nat → Int32) (ρ' : md_R) (im' : Nat → Option Nat), lwP (i + 1) W' ρ' im' → lwG Γ p l e s m below meth c Q b x (i + 1) W' ρ' im' 18) : lwG Γ p l e s m below meth c Q b x i W ρ im 270 := by
  have hmb : Γ.2.2.2 ≤ x + 30 := by omega
  replace X := X.with oL_c4
  unfold lwG at back ⊢
  refine mw_pre (I' := HH Γ x W ρ im (iV W) ρ.2.2.1 W ρ) (fun H h => h) ?_
  refine mw_steps X 5 (pc' := 275) (lv' := [(3, .int (nI (6 * i))), (2, .ref (x + 30)), (1, .ref x), (0, .ref b)]) (st' := [.int ((nI (6 * i)) + (nI 1)), .ref b, .ref x]) rfl ?_
  refine mw_sld X hX hbl (Nat.not_le.mpr hbl) (6 * i + 1) (by rw [nI_add]) (by omega) hL rfl ?_
  refine mw_steps X 4 (pc' := 280) (lv' := [(3, .int (nI (6 * i))), (2, .ref (x + 30)), (1, .ref x), (0, .ref b)]) (st' := [.int ((nI (6 * i)) + (nI 2)), .ref b, .int (xs (6 * i + 1)), .ref x]) rfl ?_
  refine mw_sld X hX hbl (Nat.not_le.mpr hbl) (6 * i + 2) (by rw [nI_add]) (by omega) hL rfl ?_
  refine mw_cV2r X kd_X4_challenge kv_X4_challenge kl_L_31 (ci := 4) rfl rfl (Nat.le_of_ble_eq_true rfl) ⟨Nat.le_of_ble_eq_true rfl, Nat.le_of_ble_eq_true rfl⟩ ⟨by show _ ≤ room_1.cells; have := lw_capC; omega, by show _ ≤ room_1.slots; have := lw_capS; omega⟩ (fun q z => Nat.le_trans hxs z.1) (fun H h => ⟨⟨_, h.1.1⟩, h.cls (zx_asked hx h.1)⟩) ?_
  refine mw_steps X 5 (pc' := 289) (lv' := [(3, .int (nI (6 * i))), (2, .ref (x + 30)), (1, .ref x), (0, .ref b)]) (st' := [.int ((nI (6 * i)) + (nI 1)), .ref b, .ref (x + 30), .int (op_asked W (xs (6 * i + 1)) (xs (6 * i + 2)))]) rfl ?_
  refine mw_sld X hX hbl (Nat.not_le.mpr hbl) (6 * i + 1) (by rw [nI_add]) (by omega) hL rfl ?_
  refine mw_steps X 4 (pc' := 294) (lv' := [(3, .int (nI (6 * i))), (2, .ref (x + 30)), (1, .ref x), (0, .ref b)]) (st' := [.int ((nI (6 * i)) + (nI 2)), .ref b, .int (xs (6 * i + 1)), .ref (x + 30), .int (op_asked W (xs (6 * i + 1)) (xs (6 * i + 2)))]) rfl ?_
  refine mw_sld X hX hbl (Nat.not_le.mpr hbl) (6 * i + 2) (by rw [nI_add]) (by omega) hL rfl ?_
  refine mw_cV2r X kd_X5_challenge kv_X5_challenge kl_L_34 (ci := 5) rfl rfl (Nat.le_of_ble_eq_true rfl) ⟨Nat.le_of_ble_eq_true rfl, Nat.le_of_ble_eq_true rfl⟩ ⟨by show _ ≤ room_1.cells; have := lw_capC; omega, by show _ ≤ room_1.slots; have := lw_capS; omega⟩ (fun q z => Nat.le_trans (Nat.le_trans hxs (Nat.le_add_right x 30)) z.1) (fun H h => ⟨⟨_, h.2.2.2.1⟩, h.ref (cm_asked hmb h.2.2.2 hP.1)⟩) ?_
  refine mw_icmp_eq X 803 rfl rfl (fun c298 => ?_) (fun c298 => absurd rfl c298)
  refine mw_steps X 2 (pc' := 18) (lv' := [(3, .int ((nI (6 * i)) + (nI 6))), (2, .ref (x + 30)), (1, .ref x), (0, .ref b)]) (st' := []) rfl ?_
  refine mw_lveq (lv' := [(3, .int (nI (6 * (i + 1)))), (2, .ref (x + 30)), (1, .ref x), (0, .ref b)]) (by rw [nI_add]; rfl) ?_
  refine mw_widen (ce' := 36 + 26 * (i + 1)) (sl' := 13859 + 4225 * (i + 1)) (by omega) (by omega) ?_
  refine mw_pre (I' := lwJ Γ x W ρ im) (fun H h => lwJ.of h (fun _ _ => rfl) rfl) ?_
  exact back W ρ im (hP.same (by omega))
set_option maxHeartbeats 400000 in
set_option maxRecDepth 20000 in
theorem lw_case5 (X : mw_Ok Γ p s m #[Value.ref b] meth c (fun q => s.heap.size ≤ q) (lw_d meth.name) pL_h) (hx : Γ.2.2.2 ≤ x) (hxs : s.heap.size ≤ x) (hX : va_X b L xs s s.heap) (hbl : b < s.heap.size) (hL : L ≤ 3072) (hi : 6 * i + 6 ≤ L) (hP : lwP i W ρ im) (back : ∀ (W' : Nat → Int32) (ρ' : md_R) (im' : Nat → Option Nat), lwP (i + 1) W' ρ' im' → lwG Γ p l e s m below meth c Q b x (i + 1) W' ρ' im' 18) : lwG Γ p l e s m below meth c Q b x i W ρ im 303 := by
  have hmb : Γ.2.2.2 ≤ x + 30 := by omega
  replace X := X.with oL_c5
  unfold lwG at back ⊢
  refine mw_pre (I' := HH Γ x W ρ im (iV W) ρ.2.2.1 W ρ) (fun H h => h) ?_
  refine mw_steps X 5 (pc' := 308) (lv' := [(3, .int (nI (6 * i))), (2, .ref (x + 30)), (1, .ref x), (0, .ref b)]) (st' := [.int ((nI (6 * i)) + (nI 1)), .ref b, .ref x]) rfl ?_
  refine mw_sld X hX hbl (Nat.not_le.mpr hbl) (6 * i + 1) (by rw [nI_add]) (by omega) hL rfl ?_
  refine mw_steps X 4 (pc' := 313) (lv' := [(3, .int (nI (6 * i))), (2, .ref (x + 30)), (1, .ref x), (0, .ref b)]) (st' := [.int ((nI (6 * i)) + (nI 2)), .ref b, .int (xs (6 * i + 1)), .ref x]) rfl ?_
  refine mw_sld X hX hbl (Nat.not_le.mpr hbl) (6 * i + 2) (by rw [nI_add]) (by omega) hL rfl ?_
  refine mw_cV2r X kd_X4_held kv_X4_held kl_L_35 (ci := 4) rfl rfl (Nat.le_of_ble_eq_true rfl) ⟨Nat.le_of_ble_eq_true rfl, Nat.le_of_ble_eq_true rfl⟩ ⟨by show _ ≤ room_1.cells; have := lw_capC; omega, by show _ ≤ room_1.slots; have := lw_capS; omega⟩ (fun q z => Nat.le_trans hxs z.1) (fun H h => ⟨⟨_, h.1.1⟩, h.cls (zx_held hx h.1)⟩) ?_
  refine mw_steps X 5 (pc' := 322) (lv' := [(3, .int (nI (6 * i))), (2, .ref (x + 30)), (1, .ref x), (0, .ref b)]) (st' := [.int ((nI (6 * i)) + (nI 1)), .ref b, .ref (x + 30), .int (op_held W (xs (6 * i + 1)) (xs (6 * i + 2)))]) rfl ?_
  refine mw_sld X hX hbl (Nat.not_le.mpr hbl) (6 * i + 1) (by rw [nI_add]) (by omega) hL rfl ?_
  refine mw_steps X 4 (pc' := 327) (lv' := [(3, .int (nI (6 * i))), (2, .ref (x + 30)), (1, .ref x), (0, .ref b)]) (st' := [.int ((nI (6 * i)) + (nI 2)), .ref b, .int (xs (6 * i + 1)), .ref (x + 30), .int (op_held W (xs (6 * i + 1)) (xs (6 * i + 2)))]) rfl ?_
  refine mw_sld X hX hbl (Nat.not_le.mpr hbl) (6 * i + 2) (by rw [nI_add]) (by omega) hL rfl ?_
  refine mw_cV2r X kd_X5_held kv_X5_held kl_L_38 (ci := 5) rfl rfl (Nat.le_of_ble_eq_true rfl) ⟨Nat.le_of_ble_eq_true rfl, Nat.le_of_ble_eq_true rfl⟩ ⟨by show _ ≤ room_1.cells; have := lw_capC; omega, by show _ ≤ room_1.slots; have := lw_capS; omega⟩ (fun q z => Nat.le_trans (Nat.le_trans hxs (Nat.le_add_right x 30)) z.1) (fun H h => ⟨⟨_, h.2.2.2.1⟩, h.ref (cm_held hmb h.2.2.2 hP.1)⟩) ?_
  refine mw_icmp_eq X 803 rfl rfl (fun c331 => ?_) (fun c331 => absurd rfl c331)
  refine mw_steps X 2 (pc' := 18) (lv' := [(3, .int ((nI (6 * i)) + (nI 6))), (2, .ref (x + 30)), (1, .ref x), (0, .ref b)]) (st' := []) rfl ?_
  refine mw_lveq (lv' := [(3, .int (nI (6 * (i + 1)))), (2, .ref (x + 30)), (1, .ref x), (0, .ref b)]) (by rw [nI_add]; rfl) ?_
  refine mw_widen (ce' := 36 + 26 * (i + 1)) (sl' := 13859 + 4225 * (i + 1)) (by omega) (by omega) ?_
  refine mw_pre (I' := lwJ Γ x W ρ im) (fun H h => lwJ.of h (fun _ _ => rfl) rfl) ?_
  exact back W ρ im (hP.same (by omega))
set_option maxHeartbeats 400000 in
set_option maxRecDepth 20000 in
theorem lw_case6 (X : mw_Ok Γ p s m #[Value.ref b] meth c (fun q => s.heap.size ≤ q) (lw_d meth.name) pL_h) (hx : Γ.2.2.2 ≤ x) (hxs : s.heap.size ≤ x) (hX : va_X b L xs s s.heap) (hbl : b < s.heap.size) (hL : L ≤ 3072) (hi : 6 * i + 6 ≤ L) (hP : lwP i W ρ im) (back : ∀ (W' : Nat → Int32) (ρ' : md_R) (im' : Nat → Option Nat), lwP (i + 1) W' ρ' im' → lwG Γ p l e s m below meth c Q b x (i + 1) W' ρ' im' 18) : lwG Γ p l e s m below meth c Q b x i W ρ im 336 := by
  have hmb : Γ.2.2.2 ≤ x + 30 := by omega
  replace X := X.with oL_c6
  unfold lwG at back ⊢
  refine mw_pre (I' := HH Γ x W ρ im (iV W) ρ.2.2.1 W ρ) (fun H h => h) ?_
  refine mw_steps X 5 (pc' := 341) (lv' := [(3, .int (nI (6 * i))), (2, .ref (x + 30)), (1, .ref x), (0, .ref b)]) (st' := [.int ((nI (6 * i)) + (nI 1)), .ref b, .ref x]) rfl ?_
  refine mw_sld X hX hbl (Nat.not_le.mpr hbl) (6 * i + 1) (by rw [nI_add]) (by omega) hL rfl ?_
  refine mw_cV1r X kd_X4_name kv_X4_name kl_L_39 (ci := 4) rfl rfl (Nat.le_of_ble_eq_true rfl) ⟨Nat.le_of_ble_eq_true rfl, Nat.le_of_ble_eq_true rfl⟩ ⟨by show _ ≤ room_1.cells; have := lw_capC; omega, by show _ ≤ room_1.slots; have := lw_capS; omega⟩ (fun q z => Nat.le_trans hxs z.1) (fun H h => ⟨⟨_, h.1.1⟩, h.cls (zx_name hx h.1 hP.1)⟩) ?_
  refine mw_steps X 5 (pc' := 350) (lv' := [(3, .int (nI (6 * i))), (2, .ref (x + 30)), (1, .ref x), (0, .ref b)]) (st' := [.int ((nI (6 * i)) + (nI 1)), .ref b, .ref (x + 30), .int (op_name W (xs (6 * i + 1)))]) rfl ?_
  refine mw_sld X hX hbl (Nat.not_le.mpr hbl) (6 * i + 1) (by rw [nI_add]) (by omega) hL rfl ?_
  refine mw_cV1r X kd_X5_name kv_X5_name kl_L_42 (ci := 5) rfl rfl (Nat.le_of_ble_eq_true rfl) ⟨Nat.le_of_ble_eq_true rfl, Nat.le_of_ble_eq_true rfl⟩ ⟨by show _ ≤ room_1.cells; have := lw_capC; omega, by show _ ≤ room_1.slots; have := lw_capS; omega⟩ (fun q z => Nat.le_trans (Nat.le_trans hxs (Nat.le_add_right x 30)) z.1) (fun H h => ⟨⟨_, h.2.2.2.1⟩, h.ref (cm_name hmb h.2.2.2 hP.1)⟩) ?_
  refine mw_icmp_eq X 803 rfl rfl (fun c354 => ?_) (fun c354 => absurd rfl c354)
  refine mw_steps X 2 (pc' := 18) (lv' := [(3, .int ((nI (6 * i)) + (nI 6))), (2, .ref (x + 30)), (1, .ref x), (0, .ref b)]) (st' := []) rfl ?_
  refine mw_lveq (lv' := [(3, .int (nI (6 * (i + 1)))), (2, .ref (x + 30)), (1, .ref x), (0, .ref b)]) (by rw [nI_add]; rfl) ?_
  refine mw_widen (ce' := 36 + 26 * (i + 1)) (sl' := 13859 + 4225 * (i + 1)) (by omega) (by omega) ?_
  refine mw_pre (I' := lwJ Γ x W ρ im) (fun H h => lwJ.of h (fun _ _ => rfl) rfl) ?_
  exact back W ρ im (hP.same (by omega))
set_option maxHeartbeats 400000 in
set_option maxRecDepth 20000 in
theorem lw_case7 (X : mw_Ok Γ p s m #[Value.ref b] meth c (fun q => s.heap.size ≤ q) (lw_d meth.name) pL_h) (hx : Γ.2.2.2 ≤ x) (hxs : s.heap.size ≤ x) (hX : va_X b L xs s s.heap) (hbl : b < s.heap.size) (hL : L ≤ 3072) (hi : 6 * i + 6 ≤ L) (hP : lwP i W ρ im) (back : ∀ (W' : Nat → Int32) (ρ' : md_R) (im' : Nat → Option Nat), lwP (i + 1) W' ρ' im' → lwG Γ p l e s m below meth c Q b x (i + 1) W' ρ' im' 18) : lwG Γ p l e s m below meth c Q b x i W ρ im 359 := by
  have hmb : Γ.2.2.2 ≤ x + 30 := by omega
  replace X := X.with oL_c7
  unfold lwG at back ⊢
  refine mw_pre (I' := HH Γ x W ρ im (iV W) ρ.2.2.1 W ρ) (fun H h => h) ?_
  refine mw_steps X 5 (pc' := 364) (lv' := [(3, .int (nI (6 * i))), (2, .ref (x + 30)), (1, .ref x), (0, .ref b)]) (st' := [.int ((nI (6 * i)) + (nI 1)), .ref b, .ref x]) rfl ?_
  refine mw_sld X hX hbl (Nat.not_le.mpr hbl) (6 * i + 1) (by rw [nI_add]) (by omega) hL rfl ?_
  refine mw_steps X 4 (pc' := 369) (lv' := [(3, .int (nI (6 * i))), (2, .ref (x + 30)), (1, .ref x), (0, .ref b)]) (st' := [.int ((nI (6 * i)) + (nI 2)), .ref b, .int (xs (6 * i + 1)), .ref x]) rfl ?_
  refine mw_sld X hX hbl (Nat.not_le.mpr hbl) (6 * i + 2) (by rw [nI_add]) (by omega) hL rfl ?_
  refine mw_cV2r X kd_X4_word kv_X4_word kl_L_43 (ci := 4) rfl rfl (Nat.le_of_ble_eq_true rfl) ⟨Nat.le_of_ble_eq_true rfl, Nat.le_of_ble_eq_true rfl⟩ ⟨by show _ ≤ room_1.cells; have := lw_capC; omega, by show _ ≤ room_1.slots; have := lw_capS; omega⟩ (fun q z => Nat.le_trans hxs z.1) (fun H h => ⟨⟨_, h.1.1⟩, h.cls (zx_word hx h.1 hP.1)⟩) ?_
  refine mw_steps X 5 (pc' := 378) (lv' := [(3, .int (nI (6 * i))), (2, .ref (x + 30)), (1, .ref x), (0, .ref b)]) (st' := [.int ((nI (6 * i)) + (nI 1)), .ref b, .ref (x + 30), .int (op_word W (xs (6 * i + 1)) (xs (6 * i + 2)))]) rfl ?_
  refine mw_sld X hX hbl (Nat.not_le.mpr hbl) (6 * i + 1) (by rw [nI_add]) (by omega) hL rfl ?_
  refine mw_steps X 4 (pc' := 383) (lv' := [(3, .int (nI (6 * i))), (2, .ref (x + 30)), (1, .ref x), (0, .ref b)]) (st' := [.int ((nI (6 * i)) + (nI 2)), .ref b, .int (xs (6 * i + 1)), .ref (x + 30), .int (op_word W (xs (6 * i + 1)) (xs (6 * i + 2)))]) rfl ?_
  refine mw_sld X hX hbl (Nat.not_le.mpr hbl) (6 * i + 2) (by rw [nI_add]) (by omega) hL rfl ?_
  refine mw_cV2r X kd_X5_word_ kv_X5_word_ kl_L_46 (ci := 5) rfl rfl (Nat.le_of_ble_eq_true rfl) ⟨Nat.le_of_ble_eq_true rfl, Nat.le_of_ble_eq_true rfl⟩ ⟨by show _ ≤ room_1.cells; have := lw_capC; omega, by show _ ≤ room_1.slots; have := lw_capS; omega⟩ (fun q z => Nat.le_trans (Nat.le_trans hxs (Nat.le_add_right x 30)) z.1) (fun H h => ⟨⟨_, h.2.2.2.1⟩, h.ref (cm_wordA hmb h.2.2.2 hP.1)⟩) ?_
  refine mw_icmp_eq X 803 rfl rfl (fun c387 => ?_) (fun c387 => absurd rfl c387)
  refine mw_steps X 2 (pc' := 18) (lv' := [(3, .int ((nI (6 * i)) + (nI 6))), (2, .ref (x + 30)), (1, .ref x), (0, .ref b)]) (st' := []) rfl ?_
  refine mw_lveq (lv' := [(3, .int (nI (6 * (i + 1)))), (2, .ref (x + 30)), (1, .ref x), (0, .ref b)]) (by rw [nI_add]; rfl) ?_
  refine mw_widen (ce' := 36 + 26 * (i + 1)) (sl' := 13859 + 4225 * (i + 1)) (by omega) (by omega) ?_
  refine mw_pre (I' := lwJ Γ x W ρ im) (fun H h => lwJ.of h (fun _ _ => rfl) rfl) ?_
  exact back W ρ im (hP.same (by omega))
set_option maxHeartbeats 400000 in
set_option maxRecDepth 20000 in
theorem lw_case8 (X : mw_Ok Γ p s m #[Value.ref b] meth c (fun q => s.heap.size ≤ q) (lw_d meth.name) pL_h) (hx : Γ.2.2.2 ≤ x) (hxs : s.heap.size ≤ x) (hX : va_X b L xs s s.heap) (hbl : b < s.heap.size) (hL : L ≤ 3072) (hi : 6 * i + 6 ≤ L) (hP : lwP i W ρ im) (back : ∀ (W' : Nat → Int32) (ρ' : md_R) (im' : Nat → Option Nat), lwP (i + 1) W' ρ' im' → lwG Γ p l e s m below meth c Q b x (i + 1) W' ρ' im' 18) : lwG Γ p l e s m below meth c Q b x i W ρ im 392 := by
  have hmb : Γ.2.2.2 ≤ x + 30 := by omega
  replace X := X.with oL_c8
  unfold lwG at back ⊢
  refine mw_pre (I' := HH Γ x W ρ im (iV W) ρ.2.2.1 W ρ) (fun H h => h) ?_
  refine mw_steps X 1 (pc' := 393) (lv' := [(3, .int (nI (6 * i))), (2, .ref (x + 30)), (1, .ref x), (0, .ref b)]) (st' := [.ref x]) rfl ?_
  refine mw_cV0r X kd_X4_say kv_X4_say kl_L_47 (ci := 4) rfl rfl (Nat.le_of_ble_eq_true rfl) ⟨Nat.le_of_ble_eq_true rfl, Nat.le_of_ble_eq_true rfl⟩ ⟨by show _ ≤ room_1.cells; have := lw_capC; omega, by show _ ≤ room_1.slots; have := lw_capS; omega⟩ (fun q z => Nat.le_trans hxs z.1) (fun H h => ⟨⟨_, h.1.1⟩, h.cls (zx_say hx h.1 hP.1)⟩) ?_
  refine mw_steps X 1 (pc' := 397) (lv' := [(3, .int (nI (6 * i))), (2, .ref (x + 30)), (1, .ref x), (0, .ref b)]) (st' := [.ref (x + 30), .int ((op_next W 0).1)]) rfl ?_
  refine mw_cV0r X kd_X5_say kv_X5_say kl_L_51 (ci := 5) rfl rfl (Nat.le_of_ble_eq_true rfl) ⟨Nat.le_of_ble_eq_true rfl, Nat.le_of_ble_eq_true rfl⟩ ⟨by show _ ≤ room_1.cells; have := lw_capC; omega, by show _ ≤ room_1.slots; have := lw_capS; omega⟩ (fun q z => Nat.le_trans (Nat.le_trans hxs (Nat.le_add_right x 30)) z.1) (fun H h => ⟨⟨_, h.2.2.2.1⟩, h.ref (cm_say hmb h.2.2.2 hP.1)⟩) ?_
  refine mw_icmp_eq X 803 rfl rfl (fun c400 => ?_) (fun c400 => absurd rfl c400)
  refine mw_steps X 2 (pc' := 18) (lv' := [(3, .int ((nI (6 * i)) + (nI 6))), (2, .ref (x + 30)), (1, .ref x), (0, .ref b)]) (st' := []) rfl ?_
  have hr : rop W ((op_next W 0).2) := rop_next hP.1 (by omega)
  refine mw_lveq (lv' := [(3, .int (nI (6 * (i + 1)))), (2, .ref (x + 30)), (1, .ref x), (0, .ref b)]) (by rw [nI_add]; rfl) ?_
  refine mw_widen (ce' := 36 + 26 * (i + 1)) (sl' := 13859 + 4225 * (i + 1)) (by omega) (by omega) ?_
  refine mw_pre (I' := lwJ Γ x ((op_next W 0).2) ρ im) (fun H h => lwJ.of h hr.1.2.2 rfl) ?_
  exact back ((op_next W 0).2) ρ im (hP.step (by omega) (hr.1.mono (by omega) (by omega)) hr.2 hP.2.1 hP.2.2.1 rfl rfl)
set_option maxHeartbeats 400000 in
set_option maxRecDepth 20000 in
theorem lw_case9 (X : mw_Ok Γ p s m #[Value.ref b] meth c (fun q => s.heap.size ≤ q) (lw_d meth.name) pL_h) (hx : Γ.2.2.2 ≤ x) (hxs : s.heap.size ≤ x) (hX : va_X b L xs s s.heap) (hbl : b < s.heap.size) (hL : L ≤ 3072) (hi : 6 * i + 6 ≤ L) (hP : lwP i W ρ im) (back : ∀ (W' : Nat → Int32) (ρ' : md_R) (im' : Nat → Option Nat), lwP (i + 1) W' ρ' im' → lwG Γ p l e s m below meth c Q b x (i + 1) W' ρ' im' 18) : lwG Γ p l e s m below meth c Q b x i W ρ im 405 := by
  have hmb : Γ.2.2.2 ≤ x + 30 := by omega
  replace X := X.with oL_c9
  unfold lwG at back ⊢
  refine mw_pre (I' := HH Γ x W ρ im (iV W) ρ.2.2.1 W ρ) (fun H h => h) ?_
  refine mw_steps X 5 (pc' := 410) (lv' := [(3, .int (nI (6 * i))), (2, .ref (x + 30)), (1, .ref x), (0, .ref b)]) (st' := [.int ((nI (6 * i)) + (nI 1)), .ref b, .ref x]) rfl ?_
  refine mw_sld X hX hbl (Nat.not_le.mpr hbl) (6 * i + 1) (by rw [nI_add]) (by omega) hL rfl ?_
  refine mw_cV1r X kd_X4_open kv_X4_open kl_L_52 (ci := 4) rfl rfl (Nat.le_of_ble_eq_true rfl) ⟨Nat.le_of_ble_eq_true rfl, Nat.le_of_ble_eq_true rfl⟩ ⟨by show _ ≤ room_1.cells; have := lw_capC; omega, by show _ ≤ room_1.slots; have := lw_capS; omega⟩ (fun q z => Nat.le_trans hxs z.1) (fun H h => ⟨⟨_, h.1.1⟩, h.cls (zx_open hx h.1 hP.1)⟩) ?_
  refine mw_steps X 5 (pc' := 419) (lv' := [(3, .int (nI (6 * i))), (2, .ref (x + 30)), (1, .ref x), (0, .ref b)]) (st' := [.int ((nI (6 * i)) + (nI 1)), .ref b, .ref (x + 30), .int ((op_open W (xs (6 * i + 1))).1)]) rfl ?_
  refine mw_sld X hX hbl (Nat.not_le.mpr hbl) (6 * i + 1) (by rw [nI_add]) (by omega) hL rfl ?_
  refine mw_cV1r X kd_X5_open kv_X5_open kl_L_55 (ci := 5) rfl rfl (Nat.le_of_ble_eq_true rfl) ⟨Nat.le_of_ble_eq_true rfl, Nat.le_of_ble_eq_true rfl⟩ ⟨by show _ ≤ room_1.cells; have := lw_capC; omega, by show _ ≤ room_1.slots; have := lw_capS; omega⟩ (fun q z => Nat.le_trans (Nat.le_trans hxs (Nat.le_add_right x 30)) z.1) (fun H h => ⟨⟨_, h.2.2.2.1⟩, h.ref (cm_open hmb h.2.2.2 hP.1)⟩) ?_
  refine mw_icmp_eq X 803 rfl rfl (fun c423 => ?_) (fun c423 => absurd rfl c423)
  refine mw_steps X 2 (pc' := 18) (lv' := [(3, .int ((nI (6 * i)) + (nI 6))), (2, .ref (x + 30)), (1, .ref x), (0, .ref b)]) (st' := []) rfl ?_
  have hr : rop W ((op_open W (xs (6 * i + 1))).2) := rop_open hP.1
  refine mw_lveq (lv' := [(3, .int (nI (6 * (i + 1)))), (2, .ref (x + 30)), (1, .ref x), (0, .ref b)]) (by rw [nI_add]; rfl) ?_
  refine mw_widen (ce' := 36 + 26 * (i + 1)) (sl' := 13859 + 4225 * (i + 1)) (by omega) (by omega) ?_
  refine mw_pre (I' := lwJ Γ x ((op_open W (xs (6 * i + 1))).2) ρ im) (fun H h => lwJ.of h hr.1.2.2 rfl) ?_
  exact back ((op_open W (xs (6 * i + 1))).2) ρ im (hP.step (by omega) (hr.1.mono (by omega) (by omega)) hr.2 hP.2.1 hP.2.2.1 rfl rfl)
set_option maxHeartbeats 400000 in
set_option maxRecDepth 20000 in
theorem lw_case10 (X : mw_Ok Γ p s m #[Value.ref b] meth c (fun q => s.heap.size ≤ q) (lw_d meth.name) pL_h) (hx : Γ.2.2.2 ≤ x) (hxs : s.heap.size ≤ x) (hX : va_X b L xs s s.heap) (hbl : b < s.heap.size) (hL : L ≤ 3072) (hi : 6 * i + 6 ≤ L) (hP : lwP i W ρ im) (back : ∀ (W' : Nat → Int32) (ρ' : md_R) (im' : Nat → Option Nat), lwP (i + 1) W' ρ' im' → lwG Γ p l e s m below meth c Q b x (i + 1) W' ρ' im' 18) : lwG Γ p l e s m below meth c Q b x i W ρ im 428 := by
  have hmb : Γ.2.2.2 ≤ x + 30 := by omega
  replace X := X.with oL_c10
  unfold lwG at back ⊢
  refine mw_pre (I' := HH Γ x W ρ im (iV W) ρ.2.2.1 W ρ) (fun H h => h) ?_
  refine mw_steps X 5 (pc' := 433) (lv' := [(3, .int (nI (6 * i))), (2, .ref (x + 30)), (1, .ref x), (0, .ref b)]) (st' := [.int ((nI (6 * i)) + (nI 1)), .ref b, .ref x]) rfl ?_
  refine mw_sld X hX hbl (Nat.not_le.mpr hbl) (6 * i + 1) (by rw [nI_add]) (by omega) hL rfl ?_
  refine mw_cV1r X kd_X4_go kv_X4_go kl_L_56 (ci := 4) rfl rfl (Nat.le_of_ble_eq_true rfl) ⟨Nat.le_of_ble_eq_true rfl, Nat.le_of_ble_eq_true rfl⟩ ⟨by show _ ≤ room_1.cells; have := lw_capC; omega, by show _ ≤ room_1.slots; have := lw_capS; omega⟩ (fun q z => Nat.le_trans hxs z.1) (fun H h => ⟨⟨_, h.1.1⟩, h.cls (zx_go hx h.1 hP.1)⟩) ?_
  refine mw_steps X 5 (pc' := 442) (lv' := [(3, .int (nI (6 * i))), (2, .ref (x + 30)), (1, .ref x), (0, .ref b)]) (st' := [.int ((nI (6 * i)) + (nI 1)), .ref b, .ref (x + 30), .int ((op_go W (xs (6 * i + 1))).1)]) rfl ?_
  refine mw_sld X hX hbl (Nat.not_le.mpr hbl) (6 * i + 1) (by rw [nI_add]) (by omega) hL rfl ?_
  refine mw_cV1r X kd_X5_go kv_X5_go kl_L_59 (ci := 5) rfl rfl (Nat.le_of_ble_eq_true rfl) ⟨Nat.le_of_ble_eq_true rfl, Nat.le_of_ble_eq_true rfl⟩ ⟨by show _ ≤ room_1.cells; have := lw_capC; omega, by show _ ≤ room_1.slots; have := lw_capS; omega⟩ (fun q z => Nat.le_trans (Nat.le_trans hxs (Nat.le_add_right x 30)) z.1) (fun H h => ⟨⟨_, h.2.2.2.1⟩, h.ref (cm_go hmb h.2.2.2 hP.1)⟩) ?_
  refine mw_icmp_eq X 803 rfl rfl (fun c446 => ?_) (fun c446 => absurd rfl c446)
  refine mw_steps X 2 (pc' := 18) (lv' := [(3, .int ((nI (6 * i)) + (nI 6))), (2, .ref (x + 30)), (1, .ref x), (0, .ref b)]) (st' := []) rfl ?_
  have hr : rop W ((op_go W (xs (6 * i + 1))).2) := rop_go hP.1
  refine mw_lveq (lv' := [(3, .int (nI (6 * (i + 1)))), (2, .ref (x + 30)), (1, .ref x), (0, .ref b)]) (by rw [nI_add]; rfl) ?_
  refine mw_widen (ce' := 36 + 26 * (i + 1)) (sl' := 13859 + 4225 * (i + 1)) (by omega) (by omega) ?_
  refine mw_pre (I' := lwJ Γ x ((op_go W (xs (6 * i + 1))).2) ρ im) (fun H h => lwJ.of h hr.1.2.2 rfl) ?_
  exact back ((op_go W (xs (6 * i + 1))).2) ρ im (hP.step (by omega) (hr.1.mono (by omega) (by omega)) hr.2 hP.2.1 hP.2.2.1 rfl rfl)
set_option maxHeartbeats 400000 in
set_option maxRecDepth 20000 in
theorem lw_case11 (X : mw_Ok Γ p s m #[Value.ref b] meth c (fun q => s.heap.size ≤ q) (lw_d meth.name) pL_h) (hx : Γ.2.2.2 ≤ x) (hxs : s.heap.size ≤ x) (hX : va_X b L xs s s.heap) (hbl : b < s.heap.size) (hL : L ≤ 3072) (hi : 6 * i + 6 ≤ L) (hP : lwP i W ρ im) (back : ∀ (W' : Nat → Int32) (ρ' : md_R) (im' : Nat → Option Nat), lwP (i + 1) W' ρ' im' → lwG Γ p l e s m below meth c Q b x (i + 1) W' ρ' im' 18) : lwG Γ p l e s m below meth c Q b x i W ρ im 451 := by
  have hmb : Γ.2.2.2 ≤ x + 30 := by omega
  replace X := X.with oL_c11
  unfold lwG at back ⊢
  refine mw_pre (I' := HH Γ x W ρ im (iV W) ρ.2.2.1 W ρ) (fun H h => h) ?_
  refine mw_steps X 5 (pc' := 456) (lv' := [(3, .int (nI (6 * i))), (2, .ref (x + 30)), (1, .ref x), (0, .ref b)]) (st' := [.int ((nI (6 * i)) + (nI 1)), .ref b, .ref x]) rfl ?_
  refine mw_sld X hX hbl (Nat.not_le.mpr hbl) (6 * i + 1) (by rw [nI_add]) (by omega) hL rfl ?_
  refine mw_cV1r X kd_X4_close kv_X4_close kl_L_60 (ci := 4) rfl rfl (Nat.le_of_ble_eq_true rfl) ⟨Nat.le_of_ble_eq_true rfl, Nat.le_of_ble_eq_true rfl⟩ ⟨by show _ ≤ room_1.cells; have := lw_capC; omega, by show _ ≤ room_1.slots; have := lw_capS; omega⟩ (fun q z => Nat.le_trans hxs z.1) (fun H h => ⟨⟨_, h.1.1⟩, h.cls (zx_close hx h.1 hP.1)⟩) ?_
  refine mw_steps X 5 (pc' := 465) (lv' := [(3, .int (nI (6 * i))), (2, .ref (x + 30)), (1, .ref x), (0, .ref b)]) (st' := [.int ((nI (6 * i)) + (nI 1)), .ref b, .ref (x + 30), .int ((op_close W (xs (6 * i + 1))).1)]) rfl ?_
  refine mw_sld X hX hbl (Nat.not_le.mpr hbl) (6 * i + 1) (by rw [nI_add]) (by omega) hL rfl ?_
  refine mw_cV1r X kd_X5_close kv_X5_close kl_L_63 (ci := 5) rfl rfl (Nat.le_of_ble_eq_true rfl) ⟨Nat.le_of_ble_eq_true rfl, Nat.le_of_ble_eq_true rfl⟩ ⟨by show _ ≤ room_1.cells; have := lw_capC; omega, by show _ ≤ room_1.slots; have := lw_capS; omega⟩ (fun q z => Nat.le_trans (Nat.le_trans hxs (Nat.le_add_right x 30)) z.1) (fun H h => ⟨⟨_, h.2.2.2.1⟩, h.ref (cm_closeA hmb h.2.2.2 hP.1)⟩) ?_
  refine mw_icmp_eq X 803 rfl rfl (fun c469 => ?_) (fun c469 => absurd rfl c469)
  refine mw_steps X 2 (pc' := 18) (lv' := [(3, .int ((nI (6 * i)) + (nI 6))), (2, .ref (x + 30)), (1, .ref x), (0, .ref b)]) (st' := []) rfl ?_
  have hr : rop W ((op_close W (xs (6 * i + 1))).2) := rop_close hP.1
  refine mw_lveq (lv' := [(3, .int (nI (6 * (i + 1)))), (2, .ref (x + 30)), (1, .ref x), (0, .ref b)]) (by rw [nI_add]; rfl) ?_
  refine mw_widen (ce' := 36 + 26 * (i + 1)) (sl' := 13859 + 4225 * (i + 1)) (by omega) (by omega) ?_
  refine mw_pre (I' := lwJ Γ x ((op_close W (xs (6 * i + 1))).2) ρ im) (fun H h => lwJ.of h hr.1.2.2 rfl) ?_
  exact back ((op_close W (xs (6 * i + 1))).2) ρ im (hP.step (by omega) (hr.1.mono (by omega) (by omega)) hr.2 hP.2.1 hP.2.2.1 rfl rfl)
set_option maxHeartbeats 400000 in
set_option maxRecDepth 20000 in
theorem lw_case12 (X : mw_Ok Γ p s m #[Value.ref b] meth c (fun q => s.heap.size ≤ q) (lw_d meth.name) pL_h) (hx : Γ.2.2.2 ≤ x) (hxs : s.heap.size ≤ x) (hX : va_X b L xs s s.heap) (hbl : b < s.heap.size) (hL : L ≤ 3072) (hi : 6 * i + 6 ≤ L) (hP : lwP i W ρ im) (back : ∀ (W' : Nat → Int32) (ρ' : md_R) (im' : Nat → Option Nat), lwP (i + 1) W' ρ' im' → lwG Γ p l e s m below meth c Q b x (i + 1) W' ρ' im' 18) : lwG Γ p l e s m below meth c Q b x i W ρ im 474 := by
  have hmb : Γ.2.2.2 ≤ x + 30 := by omega
  replace X := X.with oL_c12
  unfold lwG at back ⊢
  refine mw_pre (I' := HH Γ x W ρ im (iV W) ρ.2.2.1 W ρ) (fun H h => h) ?_
  refine mw_steps X 1 (pc' := 475) (lv' := [(3, .int (nI (6 * i))), (2, .ref (x + 30)), (1, .ref x), (0, .ref b)]) (st' := [.ref x]) rfl ?_
  refine mw_cV0r X kd_X4_speak kv_X4_speak kl_L_64 (ci := 4) rfl rfl (Nat.le_of_ble_eq_true rfl) ⟨Nat.le_of_ble_eq_true rfl, Nat.le_of_ble_eq_true rfl⟩ ⟨by show _ ≤ room_1.cells; have := lw_capC; omega, by show _ ≤ room_1.slots; have := lw_capS; omega⟩ (fun q z => Nat.le_trans hxs z.1) (fun H h => ⟨⟨_, h.1.1⟩, h.cls (zx_speak hx h.1 hP.1)⟩) ?_
  refine mw_steps X 1 (pc' := 479) (lv' := [(3, .int (nI (6 * i))), (2, .ref (x + 30)), (1, .ref x), (0, .ref b)]) (st' := [.ref (x + 30), .int ((op_next W 1).1)]) rfl ?_
  refine mw_cV0r X kd_X5_speak kv_X5_speak kl_L_67 (ci := 5) rfl rfl (Nat.le_of_ble_eq_true rfl) ⟨Nat.le_of_ble_eq_true rfl, Nat.le_of_ble_eq_true rfl⟩ ⟨by show _ ≤ room_1.cells; have := lw_capC; omega, by show _ ≤ room_1.slots; have := lw_capS; omega⟩ (fun q z => Nat.le_trans (Nat.le_trans hxs (Nat.le_add_right x 30)) z.1) (fun H h => ⟨⟨_, h.2.2.2.1⟩, h.ref (cm_speak hmb h.2.2.2 hP.1)⟩) ?_
  refine mw_icmp_eq X 803 rfl rfl (fun c482 => ?_) (fun c482 => absurd rfl c482)
  refine mw_steps X 2 (pc' := 18) (lv' := [(3, .int ((nI (6 * i)) + (nI 6))), (2, .ref (x + 30)), (1, .ref x), (0, .ref b)]) (st' := []) rfl ?_
  have hr : rop W ((op_next W 1).2) := rop_next hP.1 (by omega)
  refine mw_lveq (lv' := [(3, .int (nI (6 * (i + 1)))), (2, .ref (x + 30)), (1, .ref x), (0, .ref b)]) (by rw [nI_add]; rfl) ?_
  refine mw_widen (ce' := 36 + 26 * (i + 1)) (sl' := 13859 + 4225 * (i + 1)) (by omega) (by omega) ?_
  refine mw_pre (I' := lwJ Γ x ((op_next W 1).2) ρ im) (fun H h => lwJ.of h hr.1.2.2 rfl) ?_
  exact back ((op_next W 1).2) ρ im (hP.step (by omega) (hr.1.mono (by omega) (by omega)) hr.2 hP.2.1 hP.2.2.1 rfl rfl)
set_option maxHeartbeats 400000 in
set_option maxRecDepth 20000 in
theorem lw_case13 (X : mw_Ok Γ p s m #[Value.ref b] meth c (fun q => s.heap.size ≤ q) (lw_d meth.name) pL_h) (hx : Γ.2.2.2 ≤ x) (hxs : s.heap.size ≤ x) (hX : va_X b L xs s s.heap) (hbl : b < s.heap.size) (hL : L ≤ 3072) (hi : 6 * i + 6 ≤ L) (hP : lwP i W ρ im) (back : ∀ (W' : Nat → Int32) (ρ' : md_R) (im' : Nat → Option Nat), lwP (i + 1) W' ρ' im' → lwG Γ p l e s m below meth c Q b x (i + 1) W' ρ' im' 18) : lwG Γ p l e s m below meth c Q b x i W ρ im 487 := by
  have hmb : Γ.2.2.2 ≤ x + 30 := by omega
  replace X := X.with oL_c13
  unfold lwG at back ⊢
  refine mw_pre (I' := HH Γ x W ρ im (iV W) ρ.2.2.1 W ρ) (fun H h => h) ?_
  refine mw_steps X 5 (pc' := 492) (lv' := [(3, .int (nI (6 * i))), (2, .ref (x + 30)), (1, .ref x), (0, .ref b)]) (st' := [.int ((nI (6 * i)) + (nI 1)), .ref b, .ref x]) rfl ?_
  refine mw_sld X hX hbl (Nat.not_le.mpr hbl) (6 * i + 1) (by rw [nI_add]) (by omega) hL rfl ?_
  refine mw_cV1r X kd_X4_again kv_X4_again kl_L_68 (ci := 4) rfl rfl (Nat.le_of_ble_eq_true rfl) ⟨Nat.le_of_ble_eq_true rfl, Nat.le_of_ble_eq_true rfl⟩ ⟨by show _ ≤ room_1.cells; have := lw_capC; omega, by show _ ≤ room_1.slots; have := lw_capS; omega⟩ (fun q z => Nat.le_trans hxs z.1) (fun H h => ⟨⟨_, h.1.1⟩, h.cls (zx_again hx h.1 hP.1)⟩) ?_
  refine mw_steps X 5 (pc' := 501) (lv' := [(3, .int (nI (6 * i))), (2, .ref (x + 30)), (1, .ref x), (0, .ref b)]) (st' := [.int ((nI (6 * i)) + (nI 1)), .ref b, .ref (x + 30), .int ((op_again W (xs (6 * i + 1))).1)]) rfl ?_
  refine mw_sld X hX hbl (Nat.not_le.mpr hbl) (6 * i + 1) (by rw [nI_add]) (by omega) hL rfl ?_
  refine mw_cV1r X kd_X5_again kv_X5_again kl_L_71 (ci := 5) rfl rfl (Nat.le_of_ble_eq_true rfl) ⟨Nat.le_of_ble_eq_true rfl, Nat.le_of_ble_eq_true rfl⟩ ⟨by show _ ≤ room_1.cells; have := lw_capC; omega, by show _ ≤ room_1.slots; have := lw_capS; omega⟩ (fun q z => Nat.le_trans (Nat.le_trans hxs (Nat.le_add_right x 30)) z.1) (fun H h => ⟨⟨_, h.2.2.2.1⟩, h.ref (cm_again hmb h.2.2.2 hP.1)⟩) ?_
  refine mw_icmp_eq X 803 rfl rfl (fun c505 => ?_) (fun c505 => absurd rfl c505)
  refine mw_steps X 2 (pc' := 18) (lv' := [(3, .int ((nI (6 * i)) + (nI 6))), (2, .ref (x + 30)), (1, .ref x), (0, .ref b)]) (st' := []) rfl ?_
  have hr : rop W ((op_again W (xs (6 * i + 1))).2) := rop_again hP.1
  refine mw_lveq (lv' := [(3, .int (nI (6 * (i + 1)))), (2, .ref (x + 30)), (1, .ref x), (0, .ref b)]) (by rw [nI_add]; rfl) ?_
  refine mw_widen (ce' := 36 + 26 * (i + 1)) (sl' := 13859 + 4225 * (i + 1)) (by omega) (by omega) ?_
  refine mw_pre (I' := lwJ Γ x ((op_again W (xs (6 * i + 1))).2) ρ im) (fun H h => lwJ.of h hr.1.2.2 rfl) ?_
  exact back ((op_again W (xs (6 * i + 1))).2) ρ im (hP.step (by omega) (hr.1.mono (by omega) (by omega)) hr.2 hP.2.1 hP.2.2.1 rfl rfl)
set_option maxHeartbeats 400000 in
set_option maxRecDepth 20000 in
theorem lw_case14 (X : mw_Ok Γ p s m #[Value.ref b] meth c (fun q => s.heap.size ≤ q) (lw_d meth.name) pL_h) (hx : Γ.2.2.2 ≤ x) (hxs : s.heap.size ≤ x) (hX : va_X b L xs s s.heap) (hbl : b < s.heap.size) (hL : L ≤ 3072) (hi : 6 * i + 6 ≤ L) (hP : lwP i W ρ im) (back : ∀ (W' : Nat → Int32) (ρ' : md_R) (im' : Nat → Option Nat), lwP (i + 1) W' ρ' im' → lwG Γ p l e s m below meth c Q b x (i + 1) W' ρ' im' 18) : lwG Γ p l e s m below meth c Q b x i W ρ im 510 := by
  have hmb : Γ.2.2.2 ≤ x + 30 := by omega
  replace X := X.with oL_c14
  unfold lwG at back ⊢
  refine mw_pre (I' := HH Γ x W ρ im (iV W) ρ.2.2.1 W ρ) (fun H h => h) ?_
  refine mw_steps X 5 (pc' := 515) (lv' := [(3, .int (nI (6 * i))), (2, .ref (x + 30)), (1, .ref x), (0, .ref b)]) (st' := [.int ((nI (6 * i)) + (nI 1)), .ref b, .ref x]) rfl ?_
  refine mw_sld X hX hbl (Nat.not_le.mpr hbl) (6 * i + 1) (by rw [nI_add]) (by omega) hL rfl ?_
  refine mw_cV1r X kd_X4_arrive kv_X4_arrive kl_L_72 (ci := 4) rfl rfl (Nat.le_of_ble_eq_true rfl) ⟨Nat.le_of_ble_eq_true rfl, Nat.le_of_ble_eq_true rfl⟩ ⟨by show _ ≤ room_1.cells; have := lw_capC; omega, by show _ ≤ room_1.slots; have := lw_capS; omega⟩ (fun q z => Nat.le_trans hxs z.1) (fun H h => ⟨⟨_, h.1.1⟩, h.cls (zx_arrive hx h.1 (c := 15) hP.1)⟩) ?_
  refine mw_steps X 5 (pc' := 524) (lv' := [(3, .int (nI (6 * i))), (2, .ref (x + 30)), (1, .ref x), (0, .ref b)]) (st' := [.int ((nI (6 * i)) + (nI 1)), .ref b, .ref (x + 30), .int ((op_arrive W (xs (6 * i + 1))).1)]) rfl ?_
  refine mw_sld X hX hbl (Nat.not_le.mpr hbl) (6 * i + 1) (by rw [nI_add]) (by omega) hL rfl ?_
  refine mw_cV1r X kd_X5_arrive kv_X5_arrive kl_L_75 (ci := 5) rfl rfl (Nat.le_of_ble_eq_true rfl) ⟨Nat.le_of_ble_eq_true rfl, Nat.le_of_ble_eq_true rfl⟩ ⟨by show _ ≤ room_1.cells; have := lw_capC; omega, by show _ ≤ room_1.slots; have := lw_capS; omega⟩ (fun q z => Nat.le_trans (Nat.le_trans hxs (Nat.le_add_right x 30)) z.1) (fun H h => ⟨⟨_, h.2.2.2.1⟩, h.ref (cm_arrive hmb h.2.2.2 (c := 15) hP.1)⟩) ?_
  refine mw_icmp_eq X 803 rfl rfl (fun c528 => ?_) (fun c528 => absurd rfl c528)
  refine mw_steps X 2 (pc' := 18) (lv' := [(3, .int ((nI (6 * i)) + (nI 6))), (2, .ref (x + 30)), (1, .ref x), (0, .ref b)]) (st' := []) rfl ?_
  have hr : rop W ((op_arrive W (xs (6 * i + 1))).2) := rop_arrive hP.1
  refine mw_lveq (lv' := [(3, .int (nI (6 * (i + 1)))), (2, .ref (x + 30)), (1, .ref x), (0, .ref b)]) (by rw [nI_add]; rfl) ?_
  refine mw_widen (ce' := 36 + 26 * (i + 1)) (sl' := 13859 + 4225 * (i + 1)) (by omega) (by omega) ?_
  refine mw_pre (I' := lwJ Γ x ((op_arrive W (xs (6 * i + 1))).2) ρ im) (fun H h => lwJ.of h hr.1.2.2 rfl) ?_
  exact back ((op_arrive W (xs (6 * i + 1))).2) ρ im (hP.step (by omega) (hr.1.mono (by omega) (by omega)) hr.2 hP.2.1 hP.2.2.1 rfl rfl)
set_option maxHeartbeats 400000 in
set_option maxRecDepth 20000 in
theorem lw_case15 (X : mw_Ok Γ p s m #[Value.ref b] meth c (fun q => s.heap.size ≤ q) (lw_d meth.name) pL_h) (hx : Γ.2.2.2 ≤ x) (hxs : s.heap.size ≤ x) (hX : va_X b L xs s s.heap) (hbl : b < s.heap.size) (hL : L ≤ 3072) (hi : 6 * i + 6 ≤ L) (hP : lwP i W ρ im) (back : ∀ (W' : Nat → Int32) (ρ' : md_R) (im' : Nat → Option Nat), lwP (i + 1) W' ρ' im' → lwG Γ p l e s m below meth c Q b x (i + 1) W' ρ' im' 18) : lwG Γ p l e s m below meth c Q b x i W ρ im 533 := by
  have hmb : Γ.2.2.2 ≤ x + 30 := by omega
  replace X := X.with oL_c15
  unfold lwG at back ⊢
  refine mw_pre (I' := HH Γ x W ρ im (iV W) ρ.2.2.1 W ρ) (fun H h => h) ?_
  refine mw_steps X 5 (pc' := 538) (lv' := [(3, .int (nI (6 * i))), (2, .ref (x + 30)), (1, .ref x), (0, .ref b)]) (st' := [.int ((nI (6 * i)) + (nI 1)), .ref b, .ref x]) rfl ?_
  refine mw_sld X hX hbl (Nat.not_le.mpr hbl) (6 * i + 1) (by rw [nI_add]) (by omega) hL rfl ?_
  refine mw_cV1r X kd_X4_lose kv_X4_lose kl_L_76 (ci := 4) rfl rfl (Nat.le_of_ble_eq_true rfl) ⟨Nat.le_of_ble_eq_true rfl, Nat.le_of_ble_eq_true rfl⟩ ⟨by show _ ≤ room_1.cells; have := lw_capC; omega, by show _ ≤ room_1.slots; have := lw_capS; omega⟩ (fun q z => Nat.le_trans hxs z.1) (fun H h => ⟨⟨_, h.1.1⟩, h.cls (zx_lose hx h.1 hP.1)⟩) ?_
  refine mw_steps X 5 (pc' := 547) (lv' := [(3, .int (nI (6 * i))), (2, .ref (x + 30)), (1, .ref x), (0, .ref b)]) (st' := [.int ((nI (6 * i)) + (nI 1)), .ref b, .ref (x + 30), .int ((op_lose W (xs (6 * i + 1))).1)]) rfl ?_
  refine mw_sld X hX hbl (Nat.not_le.mpr hbl) (6 * i + 1) (by rw [nI_add]) (by omega) hL rfl ?_
  refine mw_cV1r X kd_X5_lose kv_X5_lose kl_L_79 (ci := 5) rfl rfl (Nat.le_of_ble_eq_true rfl) ⟨Nat.le_of_ble_eq_true rfl, Nat.le_of_ble_eq_true rfl⟩ ⟨by show _ ≤ room_1.cells; have := lw_capC; omega, by show _ ≤ room_1.slots; have := lw_capS; omega⟩ (fun q z => Nat.le_trans (Nat.le_trans hxs (Nat.le_add_right x 30)) z.1) (fun H h => ⟨⟨_, h.2.2.2.1⟩, h.ref (cm_lose hmb h.2.2.2 hP.1)⟩) ?_
  refine mw_icmp_eq X 803 rfl rfl (fun c551 => ?_) (fun c551 => absurd rfl c551)
  refine mw_steps X 2 (pc' := 18) (lv' := [(3, .int ((nI (6 * i)) + (nI 6))), (2, .ref (x + 30)), (1, .ref x), (0, .ref b)]) (st' := []) rfl ?_
  have hr : rop W ((op_lose W (xs (6 * i + 1))).2) := rop_lose hP.1
  refine mw_lveq (lv' := [(3, .int (nI (6 * (i + 1)))), (2, .ref (x + 30)), (1, .ref x), (0, .ref b)]) (by rw [nI_add]; rfl) ?_
  refine mw_widen (ce' := 36 + 26 * (i + 1)) (sl' := 13859 + 4225 * (i + 1)) (by omega) (by omega) ?_
  refine mw_pre (I' := lwJ Γ x ((op_lose W (xs (6 * i + 1))).2) ρ im) (fun H h => lwJ.of h hr.1.2.2 rfl) ?_
  exact back ((op_lose W (xs (6 * i + 1))).2) ρ im (hP.step (by omega) (hr.1.mono (by omega) (by omega)) hr.2 hP.2.1 hP.2.2.1 rfl rfl)
set_option maxHeartbeats 400000 in
set_option maxRecDepth 20000 in
theorem lw_case16 (X : mw_Ok Γ p s m #[Value.ref b] meth c (fun q => s.heap.size ≤ q) (lw_d meth.name) pL_h) (hx : Γ.2.2.2 ≤ x) (hxs : s.heap.size ≤ x) (hX : va_X b L xs s s.heap) (hbl : b < s.heap.size) (hL : L ≤ 3072) (hi : 6 * i + 6 ≤ L) (hP : lwP i W ρ im) (back : ∀ (W' : Nat → Int32) (ρ' : md_R) (im' : Nat → Option Nat), lwP (i + 1) W' ρ' im' → lwG Γ p l e s m below meth c Q b x (i + 1) W' ρ' im' 18) : lwG Γ p l e s m below meth c Q b x i W ρ im 556 := by
  have hmb : Γ.2.2.2 ≤ x + 30 := by omega
  replace X := X.with oL_c16
  unfold lwG at back ⊢
  refine mw_pre (I' := HH Γ x W ρ im (iV W) ρ.2.2.1 W ρ) (fun H h => h) ?_
  refine mw_steps X 5 (pc' := 561) (lv' := [(3, .int (nI (6 * i))), (2, .ref (x + 30)), (1, .ref x), (0, .ref b)]) (st' := [.int ((nI (6 * i)) + (nI 1)), .ref b, .ref x]) rfl ?_
  refine mw_sld X hX hbl (Nat.not_le.mpr hbl) (6 * i + 1) (by rw [nI_add]) (by omega) hL rfl ?_
  refine mw_cV1r X kd_X4_twice kv_X4_twice kl_L_80 (ci := 4) rfl rfl (Nat.le_of_ble_eq_true rfl) ⟨Nat.le_of_ble_eq_true rfl, Nat.le_of_ble_eq_true rfl⟩ ⟨by show _ ≤ room_1.cells; have := lw_capC; omega, by show _ ≤ room_1.slots; have := lw_capS; omega⟩ (fun q z => Nat.le_trans hxs z.1) (fun H h => ⟨⟨_, h.1.1⟩, h.cls (zx_twice hx h.1 hP.1)⟩) ?_
  refine mw_steps X 5 (pc' := 570) (lv' := [(3, .int (nI (6 * i))), (2, .ref (x + 30)), (1, .ref x), (0, .ref b)]) (st' := [.int ((nI (6 * i)) + (nI 1)), .ref b, .ref (x + 30), .int ((op_twice W (xs (6 * i + 1))).1)]) rfl ?_
  refine mw_sld X hX hbl (Nat.not_le.mpr hbl) (6 * i + 1) (by rw [nI_add]) (by omega) hL rfl ?_
  refine mw_cV1r X kd_X5_twice kv_X5_twice kl_L_83 (ci := 5) rfl rfl (Nat.le_of_ble_eq_true rfl) ⟨Nat.le_of_ble_eq_true rfl, Nat.le_of_ble_eq_true rfl⟩ ⟨by show _ ≤ room_1.cells; have := lw_capC; omega, by show _ ≤ room_1.slots; have := lw_capS; omega⟩ (fun q z => Nat.le_trans (Nat.le_trans hxs (Nat.le_add_right x 30)) z.1) (fun H h => ⟨⟨_, h.2.2.2.1⟩, h.ref (cm_twice hmb h.2.2.2 hP.1)⟩) ?_
  refine mw_icmp_eq X 803 rfl rfl (fun c574 => ?_) (fun c574 => absurd rfl c574)
  refine mw_steps X 2 (pc' := 18) (lv' := [(3, .int ((nI (6 * i)) + (nI 6))), (2, .ref (x + 30)), (1, .ref x), (0, .ref b)]) (st' := []) rfl ?_
  have hr : rop W ((op_twice W (xs (6 * i + 1))).2) := rop_twice hP.1
  refine mw_lveq (lv' := [(3, .int (nI (6 * (i + 1)))), (2, .ref (x + 30)), (1, .ref x), (0, .ref b)]) (by rw [nI_add]; rfl) ?_
  refine mw_widen (ce' := 36 + 26 * (i + 1)) (sl' := 13859 + 4225 * (i + 1)) (by omega) (by omega) ?_
  refine mw_pre (I' := lwJ Γ x ((op_twice W (xs (6 * i + 1))).2) ρ im) (fun H h => lwJ.of h hr.1.2.2 rfl) ?_
  exact back ((op_twice W (xs (6 * i + 1))).2) ρ im (hP.step (by omega) (hr.1.mono (by omega) (by omega)) hr.2 hP.2.1 hP.2.2.1 rfl rfl)
set_option maxHeartbeats 400000 in
set_option maxRecDepth 20000 in
theorem lw_case17 (X : mw_Ok Γ p s m #[Value.ref b] meth c (fun q => s.heap.size ≤ q) (lw_d meth.name) pL_h) (hx : Γ.2.2.2 ≤ x) (hxs : s.heap.size ≤ x) (hX : va_X b L xs s s.heap) (hbl : b < s.heap.size) (hL : L ≤ 3072) (hi : 6 * i + 6 ≤ L) (hP : lwP i W ρ im) (back : ∀ (W' : Nat → Int32) (ρ' : md_R) (im' : Nat → Option Nat), lwP (i + 1) W' ρ' im' → lwG Γ p l e s m below meth c Q b x (i + 1) W' ρ' im' 18) : lwG Γ p l e s m below meth c Q b x i W ρ im 579 := by
  have hmb : Γ.2.2.2 ≤ x + 30 := by omega
  replace X := X.with oL_c17
  unfold lwG at back ⊢
  refine mw_pre (I' := HH Γ x W ρ im (iV W) ρ.2.2.1 W ρ) (fun H h => h) ?_
  refine mw_steps X 5 (pc' := 584) (lv' := [(3, .int (nI (6 * i))), (2, .ref (x + 30)), (1, .ref x), (0, .ref b)]) (st' := [.int ((nI (6 * i)) + (nI 1)), .ref b, .ref x]) rfl ?_
  refine mw_sld X hX hbl (Nat.not_le.mpr hbl) (6 * i + 1) (by rw [nI_add]) (by omega) hL rfl ?_
  refine mw_steps X 4 (pc' := 589) (lv' := [(3, .int (nI (6 * i))), (2, .ref (x + 30)), (1, .ref x), (0, .ref b)]) (st' := [.int ((nI (6 * i)) + (nI 2)), .ref b, .int (xs (6 * i + 1)), .ref x]) rfl ?_
  refine mw_sld X hX hbl (Nat.not_le.mpr hbl) (6 * i + 2) (by rw [nI_add]) (by omega) hL rfl ?_
  refine mw_steps X 4 (pc' := 594) (lv' := [(3, .int (nI (6 * i))), (2, .ref (x + 30)), (1, .ref x), (0, .ref b)]) (st' := [.int ((nI (6 * i)) + (nI 3)), .ref b, .int (xs (6 * i + 2)), .int (xs (6 * i + 1)), .ref x]) rfl ?_
  refine mw_sld X hX hbl (Nat.not_le.mpr hbl) (6 * i + 3) (by rw [nI_add]) (by omega) hL rfl ?_
  refine mw_steps X 4 (pc' := 599) (lv' := [(3, .int (nI (6 * i))), (2, .ref (x + 30)), (1, .ref x), (0, .ref b)]) (st' := [.int ((nI (6 * i)) + (nI 4)), .ref b, .int (xs (6 * i + 3)), .int (xs (6 * i + 2)), .int (xs (6 * i + 1)), .ref x]) rfl ?_
  refine mw_sld X hX hbl (Nat.not_le.mpr hbl) (6 * i + 4) (by rw [nI_add]) (by omega) hL rfl ?_
  refine mw_steps X 4 (pc' := 604) (lv' := [(3, .int (nI (6 * i))), (2, .ref (x + 30)), (1, .ref x), (0, .ref b)]) (st' := [.int ((nI (6 * i)) + (nI 5)), .ref b, .int (xs (6 * i + 4)), .int (xs (6 * i + 3)), .int (xs (6 * i + 2)), .int (xs (6 * i + 1)), .ref x]) rfl ?_
  refine mw_sld X hX hbl (Nat.not_le.mpr hbl) (6 * i + 5) (by rw [nI_add]) (by omega) hL rfl ?_
  refine mw_cV5r X kd_X4_forge kv_X4_forge kl_L_84 (ci := 4) rfl rfl (Nat.le_of_ble_eq_true rfl) ⟨Nat.le_of_ble_eq_true rfl, Nat.le_of_ble_eq_true rfl⟩ ⟨by show _ ≤ room_1.cells; have := lw_capC; omega, by show _ ≤ room_1.slots; have := lw_capS; omega⟩ (fun q z => Nat.le_trans hxs z.1) (fun H h => ⟨⟨_, h.1.1⟩, h.cls (zx_forge hx h.1 hP.1)⟩) ?_
  refine mw_steps X 5 (pc' := 613) (lv' := [(3, .int (nI (6 * i))), (2, .ref (x + 30)), (1, .ref x), (0, .ref b)]) (st' := [.int ((nI (6 * i)) + (nI 1)), .ref b, .ref (x + 30), .int ((op_forge W (xs (6 * i + 1)) (xs (6 * i + 2)) (xs (6 * i + 3)) (xs (6 * i + 4)) (xs (6 * i + 5))).1)]) rfl ?_
  refine mw_sld X hX hbl (Nat.not_le.mpr hbl) (6 * i + 1) (by rw [nI_add]) (by omega) hL rfl ?_
  refine mw_steps X 4 (pc' := 618) (lv' := [(3, .int (nI (6 * i))), (2, .ref (x + 30)), (1, .ref x), (0, .ref b)]) (st' := [.int ((nI (6 * i)) + (nI 2)), .ref b, .int (xs (6 * i + 1)), .ref (x + 30), .int ((op_forge W (xs (6 * i + 1)) (xs (6 * i + 2)) (xs (6 * i + 3)) (xs (6 * i + 4)) (xs (6 * i + 5))).1)]) rfl ?_
  refine mw_sld X hX hbl (Nat.not_le.mpr hbl) (6 * i + 2) (by rw [nI_add]) (by omega) hL rfl ?_
  refine mw_steps X 4 (pc' := 623) (lv' := [(3, .int (nI (6 * i))), (2, .ref (x + 30)), (1, .ref x), (0, .ref b)]) (st' := [.int ((nI (6 * i)) + (nI 3)), .ref b, .int (xs (6 * i + 2)), .int (xs (6 * i + 1)), .ref (x + 30), .int ((op_forge W (xs (6 * i + 1)) (xs (6 * i + 2)) (xs (6 * i + 3)) (xs (6 * i + 4)) (xs (6 * i + 5))).1)]) rfl ?_
  refine mw_sld X hX hbl (Nat.not_le.mpr hbl) (6 * i + 3) (by rw [nI_add]) (by omega) hL rfl ?_
  refine mw_steps X 4 (pc' := 628) (lv' := [(3, .int (nI (6 * i))), (2, .ref (x + 30)), (1, .ref x), (0, .ref b)]) (st' := [.int ((nI (6 * i)) + (nI 4)), .ref b, .int (xs (6 * i + 3)), .int (xs (6 * i + 2)), .int (xs (6 * i + 1)), .ref (x + 30), .int ((op_forge W (xs (6 * i + 1)) (xs (6 * i + 2)) (xs (6 * i + 3)) (xs (6 * i + 4)) (xs (6 * i + 5))).1)]) rfl ?_
  refine mw_sld X hX hbl (Nat.not_le.mpr hbl) (6 * i + 4) (by rw [nI_add]) (by omega) hL rfl ?_
  refine mw_steps X 4 (pc' := 633) (lv' := [(3, .int (nI (6 * i))), (2, .ref (x + 30)), (1, .ref x), (0, .ref b)]) (st' := [.int ((nI (6 * i)) + (nI 5)), .ref b, .int (xs (6 * i + 4)), .int (xs (6 * i + 3)), .int (xs (6 * i + 2)), .int (xs (6 * i + 1)), .ref (x + 30), .int ((op_forge W (xs (6 * i + 1)) (xs (6 * i + 2)) (xs (6 * i + 3)) (xs (6 * i + 4)) (xs (6 * i + 5))).1)]) rfl ?_
  refine mw_sld X hX hbl (Nat.not_le.mpr hbl) (6 * i + 5) (by rw [nI_add]) (by omega) hL rfl ?_
  refine mw_cV5r X kd_X5_forge kv_X5_forge kl_L_88 (ci := 5) rfl rfl (Nat.le_of_ble_eq_true rfl) ⟨Nat.le_of_ble_eq_true rfl, Nat.le_of_ble_eq_true rfl⟩ ⟨by show _ ≤ room_1.cells; have := lw_capC; omega, by show _ ≤ room_1.slots; have := lw_capS; omega⟩ (fun q z => Nat.le_trans (Nat.le_trans hxs (Nat.le_add_right x 30)) z.1) (fun H h => ⟨⟨_, h.2.2.2.1⟩, h.ref (cm_forge hmb h.2.2.2 hP.1)⟩) ?_
  refine mw_icmp_eq X 803 rfl rfl (fun c637 => ?_) (fun c637 => absurd rfl c637)
  refine mw_steps X 2 (pc' := 18) (lv' := [(3, .int ((nI (6 * i)) + (nI 6))), (2, .ref (x + 30)), (1, .ref x), (0, .ref b)]) (st' := []) rfl ?_
  have hr : rop W ((op_forge W (xs (6 * i + 1)) (xs (6 * i + 2)) (xs (6 * i + 3)) (xs (6 * i + 4)) (xs (6 * i + 5))).2) := rop_forge hP.1
  refine mw_lveq (lv' := [(3, .int (nI (6 * (i + 1)))), (2, .ref (x + 30)), (1, .ref x), (0, .ref b)]) (by rw [nI_add]; rfl) ?_
  refine mw_widen (ce' := 36 + 26 * (i + 1)) (sl' := 13859 + 4225 * (i + 1)) (by omega) (by omega) ?_
  refine mw_pre (I' := lwJ Γ x ((op_forge W (xs (6 * i + 1)) (xs (6 * i + 2)) (xs (6 * i + 3)) (xs (6 * i + 4)) (xs (6 * i + 5))).2) ρ im) (fun H h => lwJ.of h hr.1.2.2 rfl) ?_
  exact back ((op_forge W (xs (6 * i + 1)) (xs (6 * i + 2)) (xs (6 * i + 3)) (xs (6 * i + 4)) (xs (6 * i + 5))).2) ρ im (hP.step (by omega) (hr.1.mono (by omega) (by omega)) hr.2 hP.2.1 hP.2.2.1 rfl rfl)
set_option maxHeartbeats 400000 in
set_option maxRecDepth 20000 in
theorem lw_case18 (X : mw_Ok Γ p s m #[Value.ref b] meth c (fun q => s.heap.size ≤ q) (lw_d meth.name) pL_h) (hx : Γ.2.2.2 ≤ x) (hxs : s.heap.size ≤ x) (hX : va_X b L xs s s.heap) (hbl : b < s.heap.size) (hL : L ≤ 3072) (hi : 6 * i + 6 ≤ L) (hP : lwP i W ρ im) (back : ∀ (W' : Nat → Int32) (ρ' : md_R) (im' : Nat → Option Nat), lwP (i + 1) W' ρ' im' → lwG Γ p l e s m below meth c Q b x (i + 1) W' ρ' im' 18) : lwG Γ p l e s m below meth c Q b x i W ρ im 642 := by
  have hmb : Γ.2.2.2 ≤ x + 30 := by omega
  replace X := X.with oL_c18
  unfold lwG at back ⊢
  refine mw_pre (I' := HH Γ x W ρ im (iV W) ρ.2.2.1 W ρ) (fun H h => h) ?_
  refine mw_steps X 1 (pc' := 643) (lv' := [(3, .int (nI (6 * i))), (2, .ref (x + 30)), (1, .ref x), (0, .ref b)]) (st' := [.ref x]) rfl ?_
  refine mw_cV0r X kd_X4_tick kv_X4_tick kl_L_89 (ci := 4) rfl rfl (Nat.le_of_ble_eq_true rfl) ⟨Nat.le_of_ble_eq_true rfl, Nat.le_of_ble_eq_true rfl⟩ ⟨by show _ ≤ room_1.cells; have := lw_capC; omega, by show _ ≤ room_1.slots; have := lw_capS; omega⟩ (fun q z => Nat.le_trans hxs z.1) (fun H h => ⟨⟨_, h.1.1⟩, h.cls (zx_tick hx h.1 (c := 28) hP.1)⟩) ?_
  refine mw_steps X 1 (pc' := 647) (lv' := [(3, .int (nI (6 * i))), (2, .ref (x + 30)), (1, .ref x), (0, .ref b)]) (st' := [.ref (x + 30), .int (mo_tick W 13)]) rfl ?_
  refine mw_cV0r X kd_X5_tick kv_X5_tick kl_L_92 (ci := 5) rfl rfl (Nat.le_of_ble_eq_true rfl) ⟨Nat.le_of_ble_eq_true rfl, Nat.le_of_ble_eq_true rfl⟩ ⟨by show _ ≤ room_1.cells; have := lw_capC; omega, by show _ ≤ room_1.slots; have := lw_capS; omega⟩ (fun q z => Nat.le_trans (Nat.le_trans hxs (Nat.le_add_right x 30)) z.1) (fun H h => ⟨⟨_, h.2.2.2.1⟩, h.ref (cm_tick hmb h.2.2.2 (c := 28) hP.1)⟩) ?_
  refine mw_icmp_eq X 803 rfl rfl (fun c650 => ?_) (fun c650 => absurd rfl c650)
  refine mw_steps X 2 (pc' := 18) (lv' := [(3, .int ((nI (6 * i)) + (nI 6))), (2, .ref (x + 30)), (1, .ref x), (0, .ref b)]) (st' := []) rfl ?_
  have hr : rop W (mo_tick W) := rop_tick hP.1
  refine mw_lveq (lv' := [(3, .int (nI (6 * (i + 1)))), (2, .ref (x + 30)), (1, .ref x), (0, .ref b)]) (by rw [nI_add]; rfl) ?_
  refine mw_widen (ce' := 36 + 26 * (i + 1)) (sl' := 13859 + 4225 * (i + 1)) (by omega) (by omega) ?_
  refine mw_pre (I' := lwJ Γ x (mo_tick W) ρ im) (fun H h => lwJ.of h hr.1.2.2 rfl) ?_
  exact back (mo_tick W) ρ im (hP.step (by omega) (hr.1.mono (by omega) (by omega)) hr.2 hP.2.1 hP.2.2.1 rfl rfl)
set_option maxHeartbeats 400000 in
set_option maxRecDepth 20000 in
theorem lw_case19 (X : mw_Ok Γ p s m #[Value.ref b] meth c (fun q => s.heap.size ≤ q) (lw_d meth.name) pL_h) (hx : Γ.2.2.2 ≤ x) (hxs : s.heap.size ≤ x) (hX : va_X b L xs s s.heap) (hbl : b < s.heap.size) (hL : L ≤ 3072) (hi : 6 * i + 6 ≤ L) (hP : lwP i W ρ im) (back : ∀ (W' : Nat → Int32) (ρ' : md_R) (im' : Nat → Option Nat), lwP (i + 1) W' ρ' im' → lwG Γ p l e s m below meth c Q b x (i + 1) W' ρ' im' 18) : lwG Γ p l e s m below meth c Q b x i W ρ im 655 := by
  have hmb : Γ.2.2.2 ≤ x + 30 := by omega
  replace X := X.with oL_c19
  unfold lwG at back ⊢
  refine mw_pre (I' := HH Γ x W ρ im (iV W) ρ.2.2.1 W ρ) (fun H h => h) ?_
  have hd := rop_dr hP.1 hP.2.2.1 (20 * i) (by have := hP.2.2.2.1; omega) hP.2.2.2.2.1
  refine mw_steps X 5 (pc' := 660) (lv' := [(3, .int (nI (6 * i))), (2, .ref (x + 30)), (1, .ref x), (0, .ref b)]) (st' := [.int ((nI (6 * i)) + (nI 1)), .ref b, .ref x]) rfl ?_
  refine mw_sld X hX hbl (Nat.not_le.mpr hbl) (6 * i + 1) (by rw [nI_add]) (by omega) hL rfl ?_
  refine mw_cV1r X kd_X4_drift kv_X4_drift kl_L_93 (ci := 4) rfl rfl (Nat.le_of_ble_eq_true rfl) ⟨Nat.le_of_ble_eq_true rfl, Nat.le_of_ble_eq_true rfl⟩ ⟨by show _ ≤ room_1.cells; have := lw_capC; omega, by show _ ≤ room_1.slots; have := lw_capS; omega⟩ (fun q z => Nat.le_trans hxs z.1) (fun H h => ⟨⟨_, h.1.1⟩, h.cls (zx_drift hx h.1 (fun j hj => ⟨(hd j (by omega)).1, (hd j (by omega)).2.1⟩))⟩) ?_
  refine mw_steps X 5 (pc' := 669) (lv' := [(3, .int (nI (6 * i))), (2, .ref (x + 30)), (1, .ref x), (0, .ref b)]) (st' := [.int ((nI (6 * i)) + (nI 1)), .ref b, .ref (x + 30), .int ((op_drift W ρ.2.1 (xs (6 * i + 1))).1)]) rfl ?_
  refine mw_sld X hX hbl (Nat.not_le.mpr hbl) (6 * i + 1) (by rw [nI_add]) (by omega) hL rfl ?_
  refine mw_cV1r X kd_X5_drift kv_X5_drift kl_L_96 (ci := 5) rfl rfl (Nat.le_of_ble_eq_true rfl) ⟨Nat.le_of_ble_eq_true rfl, Nat.le_of_ble_eq_true rfl⟩ ⟨by show _ ≤ room_1.cells; have := lw_capC; omega, by show _ ≤ room_1.slots; have := lw_capS; omega⟩ (fun q z => Nat.le_trans (Nat.le_trans hxs (Nat.le_add_right x 30)) z.1) (fun H h => ⟨⟨_, h.2.2.2.1⟩, h.ref (cm_drift hmb h.2.2.2 (fun j hj => ⟨(hd j (by omega)).1, (hd j (by omega)).2.1⟩))⟩) ?_
  refine mw_icmp_eq X 803 rfl rfl (fun c673 => ?_) (fun c673 => absurd rfl c673)
  refine mw_steps X 2 (pc' := 18) (lv' := [(3, .int ((nI (6 * i)) + (nI 6))), (2, .ref (x + 30)), (1, .ref x), (0, .ref b)]) (st' := []) rfl ?_
  have hr := lw_drift (y := (xs (6 * i + 1))) hP (by omega)
  refine mw_lveq (lv' := [(3, .int (nI (6 * (i + 1)))), (2, .ref (x + 30)), (1, .ref x), (0, .ref b)]) (by rw [nI_add]; rfl) ?_
  refine mw_widen (ce' := 36 + 26 * (i + 1)) (sl' := 13859 + 4225 * (i + 1)) (by omega) (by omega) ?_
  refine mw_pre (I' := lwJ Γ x ((op_drift W ρ.2.1 (xs (6 * i + 1))).2.1) (ρ.1, (op_drift W ρ.2.1 (xs (6 * i + 1))).2.2, ρ.2.2.1, ρ.2.2.2.1, ρ.2.2.2.2.1, ρ.2.2.2.2.2.1, ρ.2.2.2.2.2.2) im) (fun H h => lwJ.of h hr.1.2.2 rfl) ?_
  exact back ((op_drift W ρ.2.1 (xs (6 * i + 1))).2.1) (ρ.1, (op_drift W ρ.2.1 (xs (6 * i + 1))).2.2, ρ.2.2.1, ρ.2.2.2.1, ρ.2.2.2.2.1, ρ.2.2.2.2.2.1, ρ.2.2.2.2.2.2) im (hP.step (by omega) hr.1 hr.2.1 hP.2.1 hr.2.2 rfl rfl)
set_option maxHeartbeats 400000 in
set_option maxRecDepth 20000 in
theorem lw_case20 (X : mw_Ok Γ p s m #[Value.ref b] meth c (fun q => s.heap.size ≤ q) (lw_d meth.name) pL_h) (hx : Γ.2.2.2 ≤ x) (hxs : s.heap.size ≤ x) (hX : va_X b L xs s s.heap) (hbl : b < s.heap.size) (hL : L ≤ 3072) (hi : 6 * i + 6 ≤ L) (hP : lwP i W ρ im) (back : ∀ (W' : Nat → Int32) (ρ' : md_R) (im' : Nat → Option Nat), lwP (i + 1) W' ρ' im' → lwG Γ p l e s m below meth c Q b x (i + 1) W' ρ' im' 18) : lwG Γ p l e s m below meth c Q b x i W ρ im 678 := by
  have hmb : Γ.2.2.2 ≤ x + 30 := by omega
  replace X := X.with oL_c20
  unfold lwG at back ⊢
  refine mw_pre (I' := HH Γ x W ρ im (iV W) ρ.2.2.1 W ρ) (fun H h => h) ?_
  refine mw_steps X 5 (pc' := 683) (lv' := [(3, .int (nI (6 * i))), (2, .ref (x + 30)), (1, .ref x), (0, .ref b)]) (st' := [.int ((nI (6 * i)) + (nI 1)), .ref b, .ref x]) rfl ?_
  refine mw_sld X hX hbl (Nat.not_le.mpr hbl) (6 * i + 1) (by rw [nI_add]) (by omega) hL rfl ?_
  refine mw_steps X 4 (pc' := 688) (lv' := [(3, .int (nI (6 * i))), (2, .ref (x + 30)), (1, .ref x), (0, .ref b)]) (st' := [.int ((nI (6 * i)) + (nI 2)), .ref b, .int (xs (6 * i + 1)), .ref x]) rfl ?_
  refine mw_sld X hX hbl (Nat.not_le.mpr hbl) (6 * i + 2) (by rw [nI_add]) (by omega) hL rfl ?_
  refine mw_steps X 4 (pc' := 693) (lv' := [(3, .int (nI (6 * i))), (2, .ref (x + 30)), (1, .ref x), (0, .ref b)]) (st' := [.int ((nI (6 * i)) + (nI 3)), .ref b, .int (xs (6 * i + 2)), .int (xs (6 * i + 1)), .ref x]) rfl ?_
  refine mw_sld X hX hbl (Nat.not_le.mpr hbl) (6 * i + 3) (by rw [nI_add]) (by omega) hL rfl ?_
  refine mw_cV3r X kd_X4_write kv_X4_write kl_L_97 (ci := 4) rfl rfl (Nat.le_of_ble_eq_true rfl) ⟨Nat.le_of_ble_eq_true rfl, Nat.le_of_ble_eq_true rfl⟩ ⟨by show _ ≤ room_1.cells; have := lw_capC; omega, by show _ ≤ room_1.slots; have := lw_capS; omega⟩ (fun q z => Nat.le_trans hxs z.1) (fun H h => ⟨⟨_, h.1.1⟩, h.cls (zx_write hx h.1 hP.2.1)⟩) ?_
  refine mw_steps X 5 (pc' := 702) (lv' := [(3, .int (nI (6 * i))), (2, .ref (x + 30)), (1, .ref x), (0, .ref b)]) (st' := [.int ((nI (6 * i)) + (nI 1)), .ref b, .ref (x + 30), .int ((op_write ρ (xs (6 * i + 1)) (xs (6 * i + 2)) (xs (6 * i + 3))).1)]) rfl ?_
  refine mw_sld X hX hbl (Nat.not_le.mpr hbl) (6 * i + 1) (by rw [nI_add]) (by omega) hL rfl ?_
  refine mw_steps X 4 (pc' := 707) (lv' := [(3, .int (nI (6 * i))), (2, .ref (x + 30)), (1, .ref x), (0, .ref b)]) (st' := [.int ((nI (6 * i)) + (nI 2)), .ref b, .int (xs (6 * i + 1)), .ref (x + 30), .int ((op_write ρ (xs (6 * i + 1)) (xs (6 * i + 2)) (xs (6 * i + 3))).1)]) rfl ?_
  refine mw_sld X hX hbl (Nat.not_le.mpr hbl) (6 * i + 2) (by rw [nI_add]) (by omega) hL rfl ?_
  refine mw_steps X 4 (pc' := 712) (lv' := [(3, .int (nI (6 * i))), (2, .ref (x + 30)), (1, .ref x), (0, .ref b)]) (st' := [.int ((nI (6 * i)) + (nI 3)), .ref b, .int (xs (6 * i + 2)), .int (xs (6 * i + 1)), .ref (x + 30), .int ((op_write ρ (xs (6 * i + 1)) (xs (6 * i + 2)) (xs (6 * i + 3))).1)]) rfl ?_
  refine mw_sld X hX hbl (Nat.not_le.mpr hbl) (6 * i + 3) (by rw [nI_add]) (by omega) hL rfl ?_
  refine mw_cV3r X kd_X5_write kv_X5_write kl_L_101 (ci := 5) rfl rfl (Nat.le_of_ble_eq_true rfl) ⟨Nat.le_of_ble_eq_true rfl, Nat.le_of_ble_eq_true rfl⟩ ⟨by show _ ≤ room_1.cells; have := lw_capC; omega, by show _ ≤ room_1.slots; have := lw_capS; omega⟩ (fun q z => Nat.le_trans (Nat.le_trans hxs (Nat.le_add_right x 30)) z.1) (fun H h => ⟨⟨_, h.2.2.2.1⟩, h.ref (cm_write hmb h.2.2.2 hP.2.1)⟩) ?_
  refine mw_icmp_eq X 803 rfl rfl (fun c716 => ?_) (fun c716 => absurd rfl c716)
  refine mw_steps X 2 (pc' := 18) (lv' := [(3, .int ((nI (6 * i)) + (nI 6))), (2, .ref (x + 30)), (1, .ref x), (0, .ref b)]) (st' := []) rfl ?_
  have hr : ((op_write ρ (xs (6 * i + 1)) (xs (6 * i + 2)) (xs (6 * i + 3))).2).1 = ρ.1 ∧ ((op_write ρ (xs (6 * i + 1)) (xs (6 * i + 2)) (xs (6 * i + 3))).2).2.1 = ρ.2.1 ∧ ((op_write ρ (xs (6 * i + 1)) (xs (6 * i + 2)) (xs (6 * i + 3))).2).2.2.1 = ρ.2.2.1 := lw_keep_write
  refine mw_lveq (lv' := [(3, .int (nI (6 * (i + 1)))), (2, .ref (x + 30)), (1, .ref x), (0, .ref b)]) (by rw [nI_add]; rfl) ?_
  refine mw_widen (ce' := 36 + 26 * (i + 1)) (sl' := 13859 + 4225 * (i + 1)) (by omega) (by omega) ?_
  refine mw_pre (I' := lwJ Γ x W ((op_write ρ (xs (6 * i + 1)) (xs (6 * i + 2)) (xs (6 * i + 3))).2) im) (fun H h => lwJ.of h (fun _ _ => rfl) hr.2.2) ?_
  exact back W ((op_write ρ (xs (6 * i + 1)) (xs (6 * i + 2)) (xs (6 * i + 3))).2) im (hP.step (by omega) rl.rfl' (hP.1.less (by omega)) (lw_iv_write hP.2.1) (by rw [hr.2.1]; exact hP.2.2.1) hr.1 hr.2.2)
set_option maxHeartbeats 400000 in
set_option maxRecDepth 20000 in
theorem lw_case21 (X : mw_Ok Γ p s m #[Value.ref b] meth c (fun q => s.heap.size ≤ q) (lw_d meth.name) pL_h) (hx : Γ.2.2.2 ≤ x) (hxs : s.heap.size ≤ x) (hX : va_X b L xs s s.heap) (hbl : b < s.heap.size) (hL : L ≤ 3072) (hi : 6 * i + 6 ≤ L) (hP : lwP i W ρ im) (back : ∀ (W' : Nat → Int32) (ρ' : md_R) (im' : Nat → Option Nat), lwP (i + 1) W' ρ' im' → lwG Γ p l e s m below meth c Q b x (i + 1) W' ρ' im' 18) : lwG Γ p l e s m below meth c Q b x i W ρ im 721 := by
  have hmb : Γ.2.2.2 ≤ x + 30 := by omega
  replace X := X.with oL_c21
  unfold lwG at back ⊢
  refine mw_pre (I' := HH Γ x W ρ im (iV W) ρ.2.2.1 W ρ) (fun H h => h) ?_
  refine mw_steps X 1 (pc' := 722) (lv' := [(3, .int (nI (6 * i))), (2, .ref (x + 30)), (1, .ref x), (0, .ref b)]) (st' := [.ref x]) rfl ?_
  refine mw_cV0r X kd_X4_tear kv_X4_tear kl_L_102 (ci := 4) rfl rfl (Nat.le_of_ble_eq_true rfl) ⟨Nat.le_of_ble_eq_true rfl, Nat.le_of_ble_eq_true rfl⟩ ⟨by show _ ≤ room_1.cells; have := lw_capC; omega, by show _ ≤ room_1.slots; have := lw_capS; omega⟩ (fun q z => Nat.le_trans hxs z.1) (fun H h => ⟨⟨_, h.1.1⟩, h.cls (zx_tear hx h.1 hP.2.1)⟩) ?_
  refine mw_steps X 1 (pc' := 726) (lv' := [(3, .int (nI (6 * i))), (2, .ref (x + 30)), (1, .ref x), (0, .ref b)]) (st' := [.ref (x + 30), .int ((op_tear ρ).1)]) rfl ?_
  refine mw_cV0r X kd_X5_tear kv_X5_tear kl_L_105 (ci := 5) rfl rfl (Nat.le_of_ble_eq_true rfl) ⟨Nat.le_of_ble_eq_true rfl, Nat.le_of_ble_eq_true rfl⟩ ⟨by show _ ≤ room_1.cells; have := lw_capC; omega, by show _ ≤ room_1.slots; have := lw_capS; omega⟩ (fun q z => Nat.le_trans (Nat.le_trans hxs (Nat.le_add_right x 30)) z.1) (fun H h => ⟨⟨_, h.2.2.2.1⟩, h.ref (cm_tear hmb h.2.2.2)⟩) ?_
  refine mw_icmp_eq X 803 rfl rfl (fun c729 => ?_) (fun c729 => absurd rfl c729)
  refine mw_steps X 2 (pc' := 18) (lv' := [(3, .int ((nI (6 * i)) + (nI 6))), (2, .ref (x + 30)), (1, .ref x), (0, .ref b)]) (st' := []) rfl ?_
  refine mw_lveq (lv' := [(3, .int (nI (6 * (i + 1)))), (2, .ref (x + 30)), (1, .ref x), (0, .ref b)]) (by rw [nI_add]; rfl) ?_
  refine mw_widen (ce' := 36 + 26 * (i + 1)) (sl' := 13859 + 4225 * (i + 1)) (by omega) (by omega) ?_
  refine mw_pre (I' := lwJ Γ x W ((op_tear ρ).2) im) (fun H h => lwJ.of h (fun _ _ => rfl) rfl) ?_
  exact back W ((op_tear ρ).2) im (hP.step (by omega) rl.rfl' (hP.1.less (by omega)) lw_iv_tear hP.2.2.1 rfl rfl)
set_option maxHeartbeats 400000 in
set_option maxRecDepth 20000 in
theorem lw_case22 (X : mw_Ok Γ p s m #[Value.ref b] meth c (fun q => s.heap.size ≤ q) (lw_d meth.name) pL_h) (hx : Γ.2.2.2 ≤ x) (hxs : s.heap.size ≤ x) (hX : va_X b L xs s s.heap) (hbl : b < s.heap.size) (hL : L ≤ 3072) (hi : 6 * i + 6 ≤ L) (hP : lwP i W ρ im) (back : ∀ (W' : Nat → Int32) (ρ' : md_R) (im' : Nat → Option Nat), lwP (i + 1) W' ρ' im' → lwG Γ p l e s m below meth c Q b x (i + 1) W' ρ' im' 18) : lwG Γ p l e s m below meth c Q b x i W ρ im 734 := by
  have hmb : Γ.2.2.2 ≤ x + 30 := by omega
  replace X := X.with oL_c22
  unfold lwG at back ⊢
  refine mw_pre (I' := HH Γ x W ρ im (iV W) ρ.2.2.1 W ρ) (fun H h => h) ?_
  refine mw_steps X 5 (pc' := 739) (lv' := [(3, .int (nI (6 * i))), (2, .ref (x + 30)), (1, .ref x), (0, .ref b)]) (st' := [.int ((nI (6 * i)) + (nI 1)), .ref b, .ref x]) rfl ?_
  refine mw_sld X hX hbl (Nat.not_le.mpr hbl) (6 * i + 1) (by rw [nI_add]) (by omega) hL rfl ?_
  refine mw_cV1r X kd_X4_seed kv_X4_seed kl_L_106 (ci := 4) rfl rfl (Nat.le_of_ble_eq_true rfl) ⟨Nat.le_of_ble_eq_true rfl, Nat.le_of_ble_eq_true rfl⟩ ⟨by show _ ≤ room_1.cells; have := lw_capC; omega, by show _ ≤ room_1.slots; have := lw_capS; omega⟩ (fun q z => Nat.le_trans hxs z.1) (fun H h => ⟨⟨_, h.1.1⟩, h.cls (zx_seed hx h.1)⟩) ?_
  refine mw_steps X 5 (pc' := 748) (lv' := [(3, .int (nI (6 * i))), (2, .ref (x + 30)), (1, .ref x), (0, .ref b)]) (st' := [.int ((nI (6 * i)) + (nI 1)), .ref b, .ref (x + 30), .int ((op_seed ρ (xs (6 * i + 1))).1)]) rfl ?_
  refine mw_sld X hX hbl (Nat.not_le.mpr hbl) (6 * i + 1) (by rw [nI_add]) (by omega) hL rfl ?_
  refine mw_cV1r X kd_X5_seed kv_X5_seed kl_L_109 (ci := 5) rfl rfl (Nat.le_of_ble_eq_true rfl) ⟨Nat.le_of_ble_eq_true rfl, Nat.le_of_ble_eq_true rfl⟩ ⟨by show _ ≤ room_1.cells; have := lw_capC; omega, by show _ ≤ room_1.slots; have := lw_capS; omega⟩ (fun q z => Nat.le_trans (Nat.le_trans hxs (Nat.le_add_right x 30)) z.1) (fun H h => ⟨⟨_, h.2.2.2.1⟩, h.ref (cm_seed hmb h.2.2.2)⟩) ?_
  refine mw_icmp_eq X 803 rfl rfl (fun c752 => ?_) (fun c752 => absurd rfl c752)
  refine mw_steps X 2 (pc' := 18) (lv' := [(3, .int ((nI (6 * i)) + (nI 6))), (2, .ref (x + 30)), (1, .ref x), (0, .ref b)]) (st' := []) rfl ?_
  have hr := lw_keep_seed (x := (xs (6 * i + 1))) hP.2.2.1 hP.2.1
  refine mw_lveq (lv' := [(3, .int (nI (6 * (i + 1)))), (2, .ref (x + 30)), (1, .ref x), (0, .ref b)]) (by rw [nI_add]; rfl) ?_
  refine mw_widen (ce' := 36 + 26 * (i + 1)) (sl' := 13859 + 4225 * (i + 1)) (by omega) (by omega) ?_
  refine mw_pre (I' := lwJ Γ x W ((op_seed ρ (xs (6 * i + 1))).2) im) (fun H h => lwJ.of h (fun _ _ => rfl) hr.2.2.1) ?_
  exact back W ((op_seed ρ (xs (6 * i + 1))).2) im (hP.step (by omega) rl.rfl' (hP.1.less (by omega)) hr.2.2.2 hr.2.1 hr.1 hr.2.2.1)
end LC
