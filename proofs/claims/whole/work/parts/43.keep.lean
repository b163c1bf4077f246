theorem mx_I.kpM {Γ : mw_C} {x : Nat} {W : Nat → Int32} {ρ : md_R} {H H1 : Heap} (h : mx_I Γ x W ρ H) (hq : ∀ q : Nat, q < H.size → mx_A x q → H1[q]? = H[q]?) : mx_I Γ x W ρ H1 :=
  ⟨h.1.kp (fun q a z => hq q a (by unfold mx_A; omega)), h.2.1.kpA (fun q a z => hq q a (mx_sub z)), h.2.2.1, h.2.2.2.kp (fun q a z => hq q a (mx_subB z))⟩
set_option maxHeartbeats 8000000 in
set_option maxRecDepth 20000 in
theorem zi_mx {l : Launch} {Γ : mw_C} {x : Nat} (ht : Γ.2.2.2 ≤ x) {H : Heap}  (hH : mw_ob Γ x 4 [.null, .null, .null] H) (hs : H.size = x + 1)  : mw_Cr l Γ mX4_init 5 29 4375 (fun q => x ≤ q) [.ref x] H none (fun H' => (mx_I Γ x mo_W0 mo_R0 H' ∧ mw_ra Γ (x + 29) 2 (fun _ => none) H') ∧ H'.size = x + 30) := by
  refine mw_ofG (P := pX4_init) (by decide) (fun q hq => Nat.le_trans ht hq) oX4_init (Nat.le_of_ble_eq_true rfl) ?_
  intro pg e0 sg mg below meth cd X hs0
  refine mw_pre (I' := fun H => H.size = x + 1 ∧ mw_ob Γ x 4 [.null, .null, .null] H ∧ True) (fun H1 h1 => by rw [h1]; exact ⟨hs, hH, trivial⟩) ?_
  refine mw_steps X 1 (pc' := 1) (lv' := [(0, .ref x)]) (st' := [.ref x]) rfl ?_
  refine mw_oinit X kl_X4_1 kt_oi kt_oc rfl (Nat.le_of_ble_eq_true rfl) (Nat.le_of_ble_eq_true rfl) ?_
  refine mw_steps X 1 (pc' := 5) (lv' := [(0, .ref x)]) (st' := [.ref x]) rfl ?_
  refine mw_newo X [.null, .null, .null, .null, .null, .null, .null, .null, .null, .null, .int 0, .int 0, .int 0, .int 0, .int 0] (ci := 3) rfl kc_3 ko_X4_7 kn_X3 k_inX3 tyX3_ok dfX3 ⟨Nat.le_of_ble_eq_true rfl, Nat.le_of_ble_eq_true rfl⟩ rfl (h := x + 1) (I1 := fun H => H.size = x + 2 ∧ mw_ob Γ x 4 [.null, .null, .null] H ∧ mw_ob Γ (x + 1) 3 [.null, .null, .null, .null, .null, .null, .null, .null, .null, .null, .int 0, .int 0, .int 0, .int 0, .int 0] H ∧ True) (fun H h => ⟨h.1, fun H1 n c => ⟨n.2.1, h.2.1.kp (fun q a z => n.2.2 q (by omega)), c, trivial⟩⟩) ?_
  refine mw_steps X 1 (pc' := 9) (lv' := [(0, .ref x)]) (st' := [.ref (x + 1), .ref (x + 1), .ref x]) rfl ?_
  refine mw_cI0 X kd_X3_init rfl rfl ki_X3_init (Or.inl kl_X4_9) rfl (Nat.le_of_ble_eq_true rfl) ⟨Nat.le_of_ble_eq_true rfl, Nat.le_of_ble_eq_true rfl⟩ ⟨Nat.le_of_ble_eq_true rfl, Nat.le_of_ble_eq_true rfl⟩ (fun q z => by have z2 : x + 1 ≤ q := z; show x ≤ q; omega) (fun H h => mw_Cr.wide (J' := fun H => H.size = x + 27 ∧ mw_ob Γ x 4 [.null, .null, .null] H ∧ ws_I Γ (x + 1) mo_W0 0 H ∧ True) (zi_ways (by omega) h.2.2.1 h.1) (fun H1 hJ _ hf => ⟨hJ.2, h.2.1.kp (fun q a z => hf q a (fun w => by have w2 : x + 1 ≤ q := w; omega)), hJ.1, trivial⟩)) ?_
  refine mw_putF X kf_X4_10 kc_4 ⟨_, _, _, tyX4 0, rfl, rfl, tyX4_ok 0 (by omega), rfl, rfl⟩ rfl (fun C T N h => by cases h; rfl) rfl (I1 := fun H => H.size = x + 27 ∧ mw_ob Γ x 4 [.ref (x + 1), .null, .null] H ∧ ws_I Γ (x + 1) mo_W0 0 H ∧ True) (fun H h => ⟨by first | omega | (dsimp only; omega), _, h.2.1, Nat.le_of_ble_eq_true rfl, fun H1 o c => ⟨o.1.trans h.1, c, h.2.2.1.kpA (fun q a z => o.2 q (by unfold ws_A at z; omega)), trivial⟩⟩) ?_
  refine mw_steps X 1 (pc' := 16) (lv' := [(0, .ref x)]) (st' := [.ref x]) rfl ?_
  refine mw_newo X [.int 0, .int 0, .null, .int 0] (ci := 2) rfl kc_2 ko_X4_16 kn_X2 k_inX2 tyX2_ok dfX2 ⟨Nat.le_of_ble_eq_true rfl, Nat.le_of_ble_eq_true rfl⟩ rfl (h := x + 27) (I1 := fun H => H.size = x + 28 ∧ mw_ob Γ x 4 [.ref (x + 1), .null, .null] H ∧ ws_I Γ (x + 1) mo_W0 0 H ∧ mw_ob Γ (x + 27) 2 [.int 0, .int 0, .null, .int 0] H ∧ True) (fun H h => ⟨h.1, fun H1 n c => ⟨n.2.1, h.2.1.kp (fun q a z => n.2.2 q (by omega)), h.2.2.1.kpA (fun q a z => n.2.2 q (by unfold ws_A at z; omega)), c, trivial⟩⟩) ?_
  refine mw_steps X 3 (pc' := 23) (lv' := [(0, .ref x)]) (st' := [.int (nI 3), .int (nI 20), .ref (x + 27), .ref (x + 27), .ref x]) rfl ?_
  refine mw_cI2 X kd_X2_init rfl rfl ki_X2_init (Or.inl kl_X4_18) rfl (Nat.le_of_ble_eq_true rfl) ⟨Nat.le_of_ble_eq_true rfl, Nat.le_of_ble_eq_true rfl⟩ ⟨Nat.le_of_ble_eq_true rfl, Nat.le_of_ble_eq_true rfl⟩ (fun q z => by have z2 : x + 27 ≤ q := z; show x ≤ q; omega) (fun H h => mw_Cr.wide (J' := fun H => H.size = x + 29 ∧ mw_ob Γ x 4 [.ref (x + 1), .null, .null] H ∧ ws_I Γ (x + 1) mo_W0 0 H ∧ tc Γ (x + 27) 20 3 0 (fun _ _ => 0) H ∧ True) (zi_table (L := 20) (C := 3) (by omega) h.2.2.2.1 h.1 (by omega) (by omega) (by omega)) (fun H1 hJ _ hf => ⟨hJ.2, h.2.1.kp (fun q a z => hf q a (fun w => by have w2 : x + 27 ≤ q := w; omega)), h.2.2.1.kpA (fun q a z => hf q a (fun w => by have w2 : x + 27 ≤ q := w; unfold ws_A at z; omega)), hJ.1, trivial⟩)) ?_
  refine mw_putF X kf_X4_21 kc_4 ⟨_, _, _, tyX4 1, rfl, rfl, tyX4_ok 1 (by omega), rfl, rfl⟩ rfl (fun C T N h => by cases h; rfl) rfl (I1 := fun H => H.size = x + 29 ∧ mw_ob Γ x 4 [.ref (x + 1), .ref (x + 27), .null] H ∧ ws_I Γ (x + 1) mo_W0 0 H ∧ tc Γ (x + 27) 20 3 0 (fun _ _ => 0) H ∧ True) (fun H h => ⟨by first | omega | (dsimp only; omega), _, h.2.1, Nat.le_of_ble_eq_true rfl, fun H1 o c => ⟨o.1.trans h.1, c, h.2.2.1.kpA (fun q a z => o.2 q (by unfold ws_A at z; omega)), h.2.2.2.1.kp (fun q a z => o.2 q (by unfold tb_A at z; omega)), trivial⟩⟩) ?_
  refine mw_steps X 2 (pc' := 31) (lv' := [(0, .ref x)]) (st' := [.int (nI 2), .ref x]) rfl ?_
  refine mw_newr X (2) rfl (by omega) ko_X4_7 ⟨Nat.le_of_ble_eq_true rfl, Nat.le_of_ble_eq_true rfl⟩ rfl (h := x + 29) (I1 := fun H => H.size = x + 30 ∧ mw_ob Γ x 4 [.ref (x + 1), .ref (x + 27), .null] H ∧ ws_I Γ (x + 1) mo_W0 0 H ∧ tc Γ (x + 27) 20 3 0 (fun _ _ => 0) H ∧ mw_ra Γ (x + 29) 2 (fun _ => none) H ∧ True) (fun H h => ⟨h.1, fun H1 n c => ⟨n.2.1, h.2.1.kp (fun q a z => n.2.2 q (by omega)), h.2.2.1.kpA (fun q a z => n.2.2 q (by unfold ws_A at z; omega)), h.2.2.2.1.kp (fun q a z => n.2.2 q (by unfold tb_A at z; omega)), c, trivial⟩⟩) ?_
  refine mw_putF X kf_X4_25 kc_4 ⟨_, _, _, tyX4 2, rfl, rfl, tyX4_ok 2 (by omega), rfl, rfl⟩ rfl (fun C T N h => by cases h; rfl) rfl (I1 := fun H => H.size = x + 30 ∧ mw_ob Γ x 4 [.ref (x + 1), .ref (x + 27), .ref (x + 29)] H ∧ ws_I Γ (x + 1) mo_W0 0 H ∧ tc Γ (x + 27) 20 3 0 (fun _ _ => 0) H ∧ mw_ra Γ (x + 29) 2 (fun _ => none) H ∧ True) (fun H h => ⟨by first | omega | (dsimp only; omega), _, h.2.1, Nat.le_of_ble_eq_true rfl, fun H1 o c => ⟨o.1.trans h.1, c, h.2.2.1.kpA (fun q a z => o.2 q (by unfold ws_A at z; omega)), h.2.2.2.1.kp (fun q a z => o.2 q (by unfold tb_A at z; omega)), h.2.2.2.2.1.kept (o.2 _ (by omega)), trivial⟩⟩) ?_
  exact mw_vret X rfl rfl (fun H h => ⟨rfl, ⟨⟨h.2.1, h.2.2.1, by decide, tc.to h.2.2.2.1 (fun k hk => absurd hk (Nat.not_lt_zero k))⟩, h.2.2.2.2.1⟩, h.1⟩)
set_option maxHeartbeats 8000000 in
set_option maxRecDepth 20000 in
theorem zi_md {l : Launch} {Γ : mw_C} {x : Nat} (ht : Γ.2.2.2 ≤ x) {H : Heap}  (hH : mw_ob Γ x 5 [.null, .int 0, .int 0, .null, .null, .null, .null, .int 0] H) (hs : H.size = x + 1)  : mw_Cr l Γ mX5_init 2 5 9473 (fun q => x ≤ q) [.ref x] H none (fun H' => md_I Γ x mo_W0 mo_R0 H' ∧ H'.size = x + 6) := by
  refine mw_ofG (P := pX5_init) (by decide) (fun q hq => Nat.le_trans ht hq) oX5_init (Nat.le_of_ble_eq_true rfl) ?_
  intro pg e0 sg mg below meth cd X hs0
  refine mw_pre (I' := fun H => H.size = x + 1 ∧ mw_ob Γ x 5 [.null, .int 0, .int 0, .null, .null, .null, .null, .int 0] H ∧ True) (fun H1 h1 => by rw [h1]; exact ⟨hs, hH, trivial⟩) ?_
  refine mw_steps X 1 (pc' := 1) (lv' := [(0, .ref x)]) (st' := [.ref x]) rfl ?_
  refine mw_oinit X kl_X5_1 kt_oi kt_oc rfl (Nat.le_of_ble_eq_true rfl) (Nat.le_of_ble_eq_true rfl) ?_
  refine mw_steps X 2 (pc' := 8) (lv' := [(0, .ref x)]) (st' := [.int (nI 9411), .ref x]) rfl ?_
  refine mw_newi X (9411) rfl (by omega) ka_int ⟨Nat.le_of_ble_eq_true rfl, Nat.le_of_ble_eq_true rfl⟩ rfl (h := x + 1) (I1 := fun H => H.size = x + 2 ∧ mw_ob Γ x 5 [.null, .int 0, .int 0, .null, .null, .null, .null, .int 0] H ∧ mw_ia Γ (x + 1) 9411 (fun _ => 0) H ∧ True) (fun H h => ⟨h.1, fun H1 n c => ⟨n.2.1, h.2.1.kp (fun q a z => n.2.2 q (by omega)), c, trivial⟩⟩) ?_
  refine mw_putF X kf_X5_7 kc_5 ⟨_, _, _, tyX5 0, rfl, rfl, tyX5_ok 0 (by omega), rfl, rfl⟩ rfl (fun C T N h => by cases h; rfl) rfl (I1 := fun H => H.size = x + 2 ∧ mw_ob Γ x 5 [.ref (x + 1), .int 0, .int 0, .null, .null, .null, .null, .int 0] H ∧ mw_ia Γ (x + 1) 9411 (fun _ => 0) H ∧ True) (fun H h => ⟨by first | omega | (dsimp only; omega), _, h.2.1, Nat.le_of_ble_eq_true rfl, fun H1 o c => ⟨o.1.trans h.1, c, h.2.2.1.kept (o.2 _ (by omega)), trivial⟩⟩) ?_
  refine mw_steps X 2 (pc' := 15) (lv' := [(0, .ref x)]) (st' := [.int (nI 2), .ref x]) rfl ?_
  refine mw_newi X (2) rfl (by omega) ka_int ⟨Nat.le_of_ble_eq_true rfl, Nat.le_of_ble_eq_true rfl⟩ rfl (h := x + 2) (I1 := fun H => H.size = x + 3 ∧ mw_ob Γ x 5 [.ref (x + 1), .int 0, .int 0, .null, .null, .null, .null, .int 0] H ∧ mw_ia Γ (x + 1) 9411 (fun _ => 0) H ∧ mw_ia Γ (x + 2) 2 (fun _ => 0) H ∧ True) (fun H h => ⟨h.1, fun H1 n c => ⟨n.2.1, h.2.1.kp (fun q a z => n.2.2 q (by omega)), h.2.2.1.kept (n.2.2 _ (by omega)), c, trivial⟩⟩) ?_
  refine mw_putF X kf_X5_13 kc_5 ⟨_, _, _, tyX5 3, rfl, rfl, tyX5_ok 3 (by omega), rfl, rfl⟩ rfl (fun C T N h => by cases h; rfl) rfl (I1 := fun H => H.size = x + 3 ∧ mw_ob Γ x 5 [.ref (x + 1), .int 0, .int 0, .ref (x + 2), .null, .null, .null, .int 0] H ∧ mw_ia Γ (x + 1) 9411 (fun _ => 0) H ∧ mw_ia Γ (x + 2) 2 (fun _ => 0) H ∧ True) (fun H h => ⟨by first | omega | (dsimp only; omega), _, h.2.1, Nat.le_of_ble_eq_true rfl, fun H1 o c => ⟨o.1.trans h.1, c, h.2.2.1.kept (o.2 _ (by omega)), h.2.2.2.1.kept (o.2 _ (by omega)), trivial⟩⟩) ?_
  refine mw_steps X 2 (pc' := 23) (lv' := [(0, .ref x)]) (st' := [.int (nI 20), .ref x]) rfl ?_
  refine mw_newi X (20) rfl (by omega) ka_int ⟨Nat.le_of_ble_eq_true rfl, Nat.le_of_ble_eq_true rfl⟩ rfl (h := x + 3) (I1 := fun H => H.size = x + 4 ∧ mw_ob Γ x 5 [.ref (x + 1), .int 0, .int 0, .ref (x + 2), .null, .null, .null, .int 0] H ∧ mw_ia Γ (x + 1) 9411 (fun _ => 0) H ∧ mw_ia Γ (x + 2) 2 (fun _ => 0) H ∧ mw_ia Γ (x + 3) 20 (fun _ => 0) H ∧ True) (fun H h => ⟨h.1, fun H1 n c => ⟨n.2.1, h.2.1.kp (fun q a z => n.2.2 q (by omega)), h.2.2.1.kept (n.2.2 _ (by omega)), h.2.2.2.1.kept (n.2.2 _ (by omega)), c, trivial⟩⟩) ?_
  refine mw_putF X kf_X5_16 kc_5 ⟨_, _, _, tyX5 4, rfl, rfl, tyX5_ok 4 (by omega), rfl, rfl⟩ rfl (fun C T N h => by cases h; rfl) rfl (I1 := fun H => H.size = x + 4 ∧ mw_ob Γ x 5 [.ref (x + 1), .int 0, .int 0, .ref (x + 2), .ref (x + 3), .null, .null, .int 0] H ∧ mw_ia Γ (x + 1) 9411 (fun _ => 0) H ∧ mw_ia Γ (x + 2) 2 (fun _ => 0) H ∧ mw_ia Γ (x + 3) 20 (fun _ => 0) H ∧ True) (fun H h => ⟨by first | omega | (dsimp only; omega), _, h.2.1, Nat.le_of_ble_eq_true rfl, fun H1 o c => ⟨o.1.trans h.1, c, h.2.2.1.kept (o.2 _ (by omega)), h.2.2.2.1.kept (o.2 _ (by omega)), h.2.2.2.2.1.kept (o.2 _ (by omega)), trivial⟩⟩) ?_
  refine mw_steps X 2 (pc' := 31) (lv' := [(0, .ref x)]) (st' := [.int (nI 20), .ref x]) rfl ?_
  refine mw_newi X (20) rfl (by omega) ka_int ⟨Nat.le_of_ble_eq_true rfl, Nat.le_of_ble_eq_true rfl⟩ rfl (h := x + 4) (I1 := fun H => H.size = x + 5 ∧ mw_ob Γ x 5 [.ref (x + 1), .int 0, .int 0, .ref (x + 2), .ref (x + 3), .null, .null, .int 0] H ∧ mw_ia Γ (x + 1) 9411 (fun _ => 0) H ∧ mw_ia Γ (x + 2) 2 (fun _ => 0) H ∧ mw_ia Γ (x + 3) 20 (fun _ => 0) H ∧ mw_ia Γ (x + 4) 20 (fun _ => 0) H ∧ True) (fun H h => ⟨h.1, fun H1 n c => ⟨n.2.1, h.2.1.kp (fun q a z => n.2.2 q (by omega)), h.2.2.1.kept (n.2.2 _ (by omega)), h.2.2.2.1.kept (n.2.2 _ (by omega)), h.2.2.2.2.1.kept (n.2.2 _ (by omega)), c, trivial⟩⟩) ?_
  refine mw_putF X kf_X5_19 kc_5 ⟨_, _, _, tyX5 5, rfl, rfl, tyX5_ok 5 (by omega), rfl, rfl⟩ rfl (fun C T N h => by cases h; rfl) rfl (I1 := fun H => H.size = x + 5 ∧ mw_ob Γ x 5 [.ref (x + 1), .int 0, .int 0, .ref (x + 2), .ref (x + 3), .ref (x + 4), .null, .int 0] H ∧ mw_ia Γ (x + 1) 9411 (fun _ => 0) H ∧ mw_ia Γ (x + 2) 2 (fun _ => 0) H ∧ mw_ia Γ (x + 3) 20 (fun _ => 0) H ∧ mw_ia Γ (x + 4) 20 (fun _ => 0) H ∧ True) (fun H h => ⟨by first | omega | (dsimp only; omega), _, h.2.1, Nat.le_of_ble_eq_true rfl, fun H1 o c => ⟨o.1.trans h.1, c, h.2.2.1.kept (o.2 _ (by omega)), h.2.2.2.1.kept (o.2 _ (by omega)), h.2.2.2.2.1.kept (o.2 _ (by omega)), h.2.2.2.2.2.1.kept (o.2 _ (by omega)), trivial⟩⟩) ?_
  refine mw_steps X 2 (pc' := 39) (lv' := [(0, .ref x)]) (st' := [.int (nI 20), .ref x]) rfl ?_
  refine mw_newi X (20) rfl (by omega) ka_int ⟨Nat.le_of_ble_eq_true rfl, Nat.le_of_ble_eq_true rfl⟩ rfl (h := x + 5) (I1 := fun H => H.size = x + 6 ∧ mw_ob Γ x 5 [.ref (x + 1), .int 0, .int 0, .ref (x + 2), .ref (x + 3), .ref (x + 4), .null, .int 0] H ∧ mw_ia Γ (x + 1) 9411 (fun _ => 0) H ∧ mw_ia Γ (x + 2) 2 (fun _ => 0) H ∧ mw_ia Γ (x + 3) 20 (fun _ => 0) H ∧ mw_ia Γ (x + 4) 20 (fun _ => 0) H ∧ mw_ia Γ (x + 5) 20 (fun _ => 0) H ∧ True) (fun H h => ⟨h.1, fun H1 n c => ⟨n.2.1, h.2.1.kp (fun q a z => n.2.2 q (by omega)), h.2.2.1.kept (n.2.2 _ (by omega)), h.2.2.2.1.kept (n.2.2 _ (by omega)), h.2.2.2.2.1.kept (n.2.2 _ (by omega)), h.2.2.2.2.2.1.kept (n.2.2 _ (by omega)), c, trivial⟩⟩) ?_
  refine mw_putF X kf_X5_22 kc_5 ⟨_, _, _, tyX5 6, rfl, rfl, tyX5_ok 6 (by omega), rfl, rfl⟩ rfl (fun C T N h => by cases h; rfl) rfl (I1 := fun H => H.size = x + 6 ∧ mw_ob Γ x 5 [.ref (x + 1), .int 0, .int 0, .ref (x + 2), .ref (x + 3), .ref (x + 4), .ref (x + 5), .int 0] H ∧ mw_ia Γ (x + 1) 9411 (fun _ => 0) H ∧ mw_ia Γ (x + 2) 2 (fun _ => 0) H ∧ mw_ia Γ (x + 3) 20 (fun _ => 0) H ∧ mw_ia Γ (x + 4) 20 (fun _ => 0) H ∧ mw_ia Γ (x + 5) 20 (fun _ => 0) H ∧ True) (fun H h => ⟨by first | omega | (dsimp only; omega), _, h.2.1, Nat.le_of_ble_eq_true rfl, fun H1 o c => ⟨o.1.trans h.1, c, h.2.2.1.kept (o.2 _ (by omega)), h.2.2.2.1.kept (o.2 _ (by omega)), h.2.2.2.2.1.kept (o.2 _ (by omega)), h.2.2.2.2.2.1.kept (o.2 _ (by omega)), h.2.2.2.2.2.2.1.kept (o.2 _ (by omega)), trivial⟩⟩) ?_
  refine mw_steps X 1 (pc' := 45) (lv' := [(0, .ref x)]) (st' := [.ref x]) rfl ?_
  refine mw_get X kf_X5_7.fl kc_5 rfl (v := .ref (x + 1)) (fun H h => ⟨_, h.2.1, rfl⟩) ?_
  refine mw_steps X 2 (pc' := 50) (lv' := [(0, .ref x)]) (st' := [.int (nI 2), .int (nI 1), .ref (x + 1)]) rfl ?_
  refine mw_iast X (I1 := fun H => H.size = x + 6 ∧ mw_ob Γ x 5 [.ref (x + 1), .int 0, .int 0, .ref (x + 2), .ref (x + 3), .ref (x + 4), .ref (x + 5), .int 0] H ∧ mw_ia Γ (x + 1) 9411 (upd (fun _ => 0) 1 (nI 2)) H ∧ mw_ia Γ (x + 2) 2 (fun _ => 0) H ∧ mw_ia Γ (x + 3) 20 (fun _ => 0) H ∧ mw_ia Γ (x + 4) 20 (fun _ => 0) H ∧ mw_ia Γ (x + 5) 20 (fun _ => 0) H ∧ True) 1 (by decide) rfl (fun H h => ⟨by first | omega | (dsimp only; omega), _, _, h.2.2.1, by omega, by decide, fun H1 o c => ⟨o.1.trans h.1, h.2.1.kp (fun q a z => o.2 q (by omega)), c, h.2.2.2.1.kept (o.2 _ (by omega)), h.2.2.2.2.1.kept (o.2 _ (by omega)), h.2.2.2.2.2.1.kept (o.2 _ (by omega)), h.2.2.2.2.2.2.1.kept (o.2 _ (by omega)), trivial⟩⟩) ?_
  refine mw_steps X 1 (pc' := 52) (lv' := [(0, .ref x)]) (st' := [.ref x]) rfl ?_
  refine mw_get X kf_X5_7.fl kc_5 rfl (v := .ref (x + 1)) (fun H h => ⟨_, h.2.1, rfl⟩) ?_
  refine mw_steps X 2 (pc' := 57) (lv' := [(0, .ref x)]) (st' := [.int (-1), .int (nI 4), .ref (x + 1)]) rfl ?_
  refine mw_iast X (I1 := fun H => H.size = x + 6 ∧ mw_ob Γ x 5 [.ref (x + 1), .int 0, .int 0, .ref (x + 2), .ref (x + 3), .ref (x + 4), .ref (x + 5), .int 0] H ∧ mw_ia Γ (x + 1) 9411 (upd (upd (fun _ => 0) 1 (nI 2)) 4 (-1)) H ∧ mw_ia Γ (x + 2) 2 (fun _ => 0) H ∧ mw_ia Γ (x + 3) 20 (fun _ => 0) H ∧ mw_ia Γ (x + 4) 20 (fun _ => 0) H ∧ mw_ia Γ (x + 5) 20 (fun _ => 0) H ∧ True) 4 (by decide) rfl (fun H h => ⟨by first | omega | (dsimp only; omega), _, _, h.2.2.1, by omega, by decide, fun H1 o c => ⟨o.1.trans h.1, h.2.1.kp (fun q a z => o.2 q (by omega)), c, h.2.2.2.1.kept (o.2 _ (by omega)), h.2.2.2.2.1.kept (o.2 _ (by omega)), h.2.2.2.2.2.1.kept (o.2 _ (by omega)), h.2.2.2.2.2.2.1.kept (o.2 _ (by omega)), trivial⟩⟩) ?_
  refine mw_steps X 1 (pc' := 59) (lv' := [(0, .ref x)]) (st' := [.ref x]) rfl ?_
  refine mw_get X kf_X5_7.fl kc_5 rfl (v := .ref (x + 1)) (fun H h => ⟨_, h.2.1, rfl⟩) ?_
  refine mw_steps X 2 (pc' := 64) (lv' := [(0, .ref x)]) (st' := [.int (-1), .int (nI 5), .ref (x + 1)]) rfl ?_
  refine mw_iast X (I1 := fun H => H.size = x + 6 ∧ mw_ob Γ x 5 [.ref (x + 1), .int 0, .int 0, .ref (x + 2), .ref (x + 3), .ref (x + 4), .ref (x + 5), .int 0] H ∧ mw_ia Γ (x + 1) 9411 (upd (upd (upd (fun _ => 0) 1 (nI 2)) 4 (-1)) 5 (-1)) H ∧ mw_ia Γ (x + 2) 2 (fun _ => 0) H ∧ mw_ia Γ (x + 3) 20 (fun _ => 0) H ∧ mw_ia Γ (x + 4) 20 (fun _ => 0) H ∧ mw_ia Γ (x + 5) 20 (fun _ => 0) H ∧ True) 5 (by decide) rfl (fun H h => ⟨by first | omega | (dsimp only; omega), _, _, h.2.2.1, by omega, by decide, fun H1 o c => ⟨o.1.trans h.1, h.2.1.kp (fun q a z => o.2 q (by omega)), c, h.2.2.2.1.kept (o.2 _ (by omega)), h.2.2.2.2.1.kept (o.2 _ (by omega)), h.2.2.2.2.2.1.kept (o.2 _ (by omega)), h.2.2.2.2.2.2.1.kept (o.2 _ (by omega)), trivial⟩⟩) ?_
  refine mw_steps X 1 (pc' := 66) (lv' := [(0, .ref x)]) (st' := [.ref x]) rfl ?_
  refine mw_get X kf_X5_7.fl kc_5 rfl (v := .ref (x + 1)) (fun H h => ⟨_, h.2.1, rfl⟩) ?_
  refine mw_steps X 2 (pc' := 72) (lv' := [(0, .ref x)]) (st' := [.int (-1), .int (nI 6), .ref (x + 1)]) rfl ?_
  refine mw_iast X (I1 := fun H => H.size = x + 6 ∧ mw_ob Γ x 5 [.ref (x + 1), .int 0, .int 0, .ref (x + 2), .ref (x + 3), .ref (x + 4), .ref (x + 5), .int 0] H ∧ mw_ia Γ (x + 1) 9411 (upd (upd (upd (upd (fun _ => 0) 1 (nI 2)) 4 (-1)) 5 (-1)) 6 (-1)) H ∧ mw_ia Γ (x + 2) 2 (fun _ => 0) H ∧ mw_ia Γ (x + 3) 20 (fun _ => 0) H ∧ mw_ia Γ (x + 4) 20 (fun _ => 0) H ∧ mw_ia Γ (x + 5) 20 (fun _ => 0) H ∧ True) 6 (by decide) rfl (fun H h => ⟨by first | omega | (dsimp only; omega), _, _, h.2.2.1, by omega, by decide, fun H1 o c => ⟨o.1.trans h.1, h.2.1.kp (fun q a z => o.2 q (by omega)), c, h.2.2.2.1.kept (o.2 _ (by omega)), h.2.2.2.2.1.kept (o.2 _ (by omega)), h.2.2.2.2.2.1.kept (o.2 _ (by omega)), h.2.2.2.2.2.2.1.kept (o.2 _ (by omega)), trivial⟩⟩) ?_
  refine mw_steps X 4 (pc' := 77) (lv' := [(1, .int (nI 1)), (0, .ref x)]) (st' := [.int (nI 5), .int (nI 1)]) rfl ?_
  refine mw_icmp_ge X 96 rfl rfl (fun c77 => absurd c77 (by decide)) (fun c77 => ?_)
  refine mw_steps X 1 (pc' := 81) (lv' := [(1, .int (nI 1)), (0, .ref x)]) (st' := [.ref x]) rfl ?_
  refine mw_get X kf_X5_7.fl kc_5 rfl (v := .ref (x + 1)) (fun H h => ⟨_, h.2.1, rfl⟩) ?_
  refine mw_steps X 4 (pc' := 89) (lv' := [(1, .int (nI 1)), (0, .ref x)]) (st' := [.int (-1), .int ((nI 22) + (nI 1)), .ref (x + 1)]) rfl ?_
  refine mw_iast X (I1 := fun H => H.size = x + 6 ∧ mw_ob Γ x 5 [.ref (x + 1), .int 0, .int 0, .ref (x + 2), .ref (x + 3), .ref (x + 4), .ref (x + 5), .int 0] H ∧ mw_ia Γ (x + 1) 9411 (upd (upd (upd (upd (upd (fun _ => 0) 1 (nI 2)) 4 (-1)) 5 (-1)) 6 (-1)) 23 (-1)) H ∧ mw_ia Γ (x + 2) 2 (fun _ => 0) H ∧ mw_ia Γ (x + 3) 20 (fun _ => 0) H ∧ mw_ia Γ (x + 4) 20 (fun _ => 0) H ∧ mw_ia Γ (x + 5) 20 (fun _ => 0) H ∧ True) 23 (by decide) rfl (fun H h => ⟨by first | omega | (dsimp only; omega), _, _, h.2.2.1, by omega, by decide, fun H1 o c => ⟨o.1.trans h.1, h.2.1.kp (fun q a z => o.2 q (by omega)), c, h.2.2.2.1.kept (o.2 _ (by omega)), h.2.2.2.2.1.kept (o.2 _ (by omega)), h.2.2.2.2.2.1.kept (o.2 _ (by omega)), h.2.2.2.2.2.2.1.kept (o.2 _ (by omega)), trivial⟩⟩) ?_
  refine mw_steps X 4 (pc' := 77) (lv' := [(1, .int ((nI 1) + (nI 1))), (0, .ref x)]) (st' := [.int (nI 5), .int ((nI 1) + (nI 1))]) rfl ?_
  refine mw_icmp_ge X 96 rfl rfl (fun c77 => absurd c77 (by decide)) (fun c77 => ?_)
  refine mw_steps X 1 (pc' := 81) (lv' := [(1, .int ((nI 1) + (nI 1))), (0, .ref x)]) (st' := [.ref x]) rfl ?_
  refine mw_get X kf_X5_7.fl kc_5 rfl (v := .ref (x + 1)) (fun H h => ⟨_, h.2.1, rfl⟩) ?_
  refine mw_steps X 4 (pc' := 89) (lv' := [(1, .int ((nI 1) + (nI 1))), (0, .ref x)]) (st' := [.int (-1), .int ((nI 22) + ((nI 1) + (nI 1))), .ref (x + 1)]) rfl ?_
  refine mw_iast X (I1 := fun H => H.size = x + 6 ∧ mw_ob Γ x 5 [.ref (x + 1), .int 0, .int 0, .ref (x + 2), .ref (x + 3), .ref (x + 4), .ref (x + 5), .int 0] H ∧ mw_ia Γ (x + 1) 9411 (upd (upd (upd (upd (upd (upd (fun _ => 0) 1 (nI 2)) 4 (-1)) 5 (-1)) 6 (-1)) 23 (-1)) 24 (-1)) H ∧ mw_ia Γ (x + 2) 2 (fun _ => 0) H ∧ mw_ia Γ (x + 3) 20 (fun _ => 0) H ∧ mw_ia Γ (x + 4) 20 (fun _ => 0) H ∧ mw_ia Γ (x + 5) 20 (fun _ => 0) H ∧ True) 24 (by decide) rfl (fun H h => ⟨by first | omega | (dsimp only; omega), _, _, h.2.2.1, by omega, by decide, fun H1 o c => ⟨o.1.trans h.1, h.2.1.kp (fun q a z => o.2 q (by omega)), c, h.2.2.2.1.kept (o.2 _ (by omega)), h.2.2.2.2.1.kept (o.2 _ (by omega)), h.2.2.2.2.2.1.kept (o.2 _ (by omega)), h.2.2.2.2.2.2.1.kept (o.2 _ (by omega)), trivial⟩⟩) ?_
  refine mw_steps X 4 (pc' := 77) (lv' := [(1, .int (((nI 1) + (nI 1)) + (nI 1))), (0, .ref x)]) (st' := [.int (nI 5), .int (((nI 1) + (nI 1)) + (nI 1))]) rfl ?_
  refine mw_icmp_ge X 96 rfl rfl (fun c77 => absurd c77 (by decide)) (fun c77 => ?_)
  refine mw_steps X 1 (pc' := 81) (lv' := [(1, .int (((nI 1) + (nI 1)) + (nI 1))), (0, .ref x)]) (st' := [.ref x]) rfl ?_
  refine mw_get X kf_X5_7.fl kc_5 rfl (v := .ref (x + 1)) (fun H h => ⟨_, h.2.1, rfl⟩) ?_
  refine mw_steps X 4 (pc' := 89) (lv' := [(1, .int (((nI 1) + (nI 1)) + (nI 1))), (0, .ref x)]) (st' := [.int (-1), .int ((nI 22) + (((nI 1) + (nI 1)) + (nI 1))), .ref (x + 1)]) rfl ?_
  refine mw_iast X (I1 := fun H => H.size = x + 6 ∧ mw_ob Γ x 5 [.ref (x + 1), .int 0, .int 0, .ref (x + 2), .ref (x + 3), .ref (x + 4), .ref (x + 5), .int 0] H ∧ mw_ia Γ (x + 1) 9411 (upd (upd (upd (upd (upd (upd (upd (fun _ => 0) 1 (nI 2)) 4 (-1)) 5 (-1)) 6 (-1)) 23 (-1)) 24 (-1)) 25 (-1)) H ∧ mw_ia Γ (x + 2) 2 (fun _ => 0) H ∧ mw_ia Γ (x + 3) 20 (fun _ => 0) H ∧ mw_ia Γ (x + 4) 20 (fun _ => 0) H ∧ mw_ia Γ (x + 5) 20 (fun _ => 0) H ∧ True) 25 (by decide) rfl (fun H h => ⟨by first | omega | (dsimp only; omega), _, _, h.2.2.1, by omega, by decide, fun H1 o c => ⟨o.1.trans h.1, h.2.1.kp (fun q a z => o.2 q (by omega)), c, h.2.2.2.1.kept (o.2 _ (by omega)), h.2.2.2.2.1.kept (o.2 _ (by omega)), h.2.2.2.2.2.1.kept (o.2 _ (by omega)), h.2.2.2.2.2.2.1.kept (o.2 _ (by omega)), trivial⟩⟩) ?_
  refine mw_steps X 4 (pc' := 77) (lv' := [(1, .int ((((nI 1) + (nI 1)) + (nI 1)) + (nI 1))), (0, .ref x)]) (st' := [.int (nI 5), .int ((((nI 1) + (nI 1)) + (nI 1)) + (nI 1))]) rfl ?_
  refine mw_icmp_ge X 96 rfl rfl (fun c77 => absurd c77 (by decide)) (fun c77 => ?_)
  refine mw_steps X 1 (pc' := 81) (lv' := [(1, .int ((((nI 1) + (nI 1)) + (nI 1)) + (nI 1))), (0, .ref x)]) (st' := [.ref x]) rfl ?_
  refine mw_get X kf_X5_7.fl kc_5 rfl (v := .ref (x + 1)) (fun H h => ⟨_, h.2.1, rfl⟩) ?_
  refine mw_steps X 4 (pc' := 89) (lv' := [(1, .int ((((nI 1) + (nI 1)) + (nI 1)) + (nI 1))), (0, .ref x)]) (st' := [.int (-1), .int ((nI 22) + ((((nI 1) + (nI 1)) + (nI 1)) + (nI 1))), .ref (x + 1)]) rfl ?_
  refine mw_iast X (I1 := fun H => H.size = x + 6 ∧ mw_ob Γ x 5 [.ref (x + 1), .int 0, .int 0, .ref (x + 2), .ref (x + 3), .ref (x + 4), .ref (x + 5), .int 0] H ∧ mw_ia Γ (x + 1) 9411 (upd (upd (upd (upd (upd (upd (upd (upd (fun _ => 0) 1 (nI 2)) 4 (-1)) 5 (-1)) 6 (-1)) 23 (-1)) 24 (-1)) 25 (-1)) 26 (-1)) H ∧ mw_ia Γ (x + 2) 2 (fun _ => 0) H ∧ mw_ia Γ (x + 3) 20 (fun _ => 0) H ∧ mw_ia Γ (x + 4) 20 (fun _ => 0) H ∧ mw_ia Γ (x + 5) 20 (fun _ => 0) H ∧ True) 26 (by decide) rfl (fun H h => ⟨by first | omega | (dsimp only; omega), _, _, h.2.2.1, by omega, by decide, fun H1 o c => ⟨o.1.trans h.1, h.2.1.kp (fun q a z => o.2 q (by omega)), c, h.2.2.2.1.kept (o.2 _ (by omega)), h.2.2.2.2.1.kept (o.2 _ (by omega)), h.2.2.2.2.2.1.kept (o.2 _ (by omega)), h.2.2.2.2.2.2.1.kept (o.2 _ (by omega)), trivial⟩⟩) ?_
  refine mw_steps X 4 (pc' := 77) (lv' := [(1, .int (((((nI 1) + (nI 1)) + (nI 1)) + (nI 1)) + (nI 1))), (0, .ref x)]) (st' := [.int (nI 5), .int (((((nI 1) + (nI 1)) + (nI 1)) + (nI 1)) + (nI 1))]) rfl ?_
  refine mw_icmp_ge X 96 rfl rfl (fun c77 => ?_) (fun c77 => absurd (by decide) c77)
  refine mw_steps X 1 (pc' := 97) (lv' := [(1, .int (((((nI 1) + (nI 1)) + (nI 1)) + (nI 1)) + (nI 1))), (0, .ref x)]) (st' := [.ref x]) rfl ?_
  refine mw_get X kf_X5_7.fl kc_5 rfl (v := .ref (x + 1)) (fun H h => ⟨_, h.2.1, rfl⟩) ?_
  refine mw_steps X 2 (pc' := 103) (lv' := [(1, .int (((((nI 1) + (nI 1)) + (nI 1)) + (nI 1)) + (nI 1))), (0, .ref x)]) (st' := [.int (nI 1), .int (nI 27), .ref (x + 1)]) rfl ?_
  refine mw_iast X (I1 := fun H => H.size = x + 6 ∧ mw_ob Γ x 5 [.ref (x + 1), .int 0, .int 0, .ref (x + 2), .ref (x + 3), .ref (x + 4), .ref (x + 5), .int 0] H ∧ mw_ia Γ (x + 1) 9411 (upd (upd (upd (upd (upd (upd (upd (upd (upd (fun _ => 0) 1 (nI 2)) 4 (-1)) 5 (-1)) 6 (-1)) 23 (-1)) 24 (-1)) 25 (-1)) 26 (-1)) 27 (nI 1)) H ∧ mw_ia Γ (x + 2) 2 (fun _ => 0) H ∧ mw_ia Γ (x + 3) 20 (fun _ => 0) H ∧ mw_ia Γ (x + 4) 20 (fun _ => 0) H ∧ mw_ia Γ (x + 5) 20 (fun _ => 0) H ∧ True) 27 (by decide) rfl (fun H h => ⟨by first | omega | (dsimp only; omega), _, _, h.2.2.1, by omega, by decide, fun H1 o c => ⟨o.1.trans h.1, h.2.1.kp (fun q a z => o.2 q (by omega)), c, h.2.2.2.1.kept (o.2 _ (by omega)), h.2.2.2.2.1.kept (o.2 _ (by omega)), h.2.2.2.2.2.1.kept (o.2 _ (by omega)), h.2.2.2.2.2.2.1.kept (o.2 _ (by omega)), trivial⟩⟩) ?_
  refine mw_steps X 1 (pc' := 105) (lv' := [(1, .int (((((nI 1) + (nI 1)) + (nI 1)) + (nI 1)) + (nI 1))), (0, .ref x)]) (st' := [.ref x]) rfl ?_
  refine mw_get X kf_X5_7.fl kc_5 rfl (v := .ref (x + 1)) (fun H h => ⟨_, h.2.1, rfl⟩) ?_
  refine mw_steps X 2 (pc' := 111) (lv' := [(1, .int (((((nI 1) + (nI 1)) + (nI 1)) + (nI 1)) + (nI 1))), (0, .ref x)]) (st' := [.int (nI 1), .int (nI 32), .ref (x + 1)]) rfl ?_
  refine mw_iast X (I1 := fun H => H.size = x + 6 ∧ mw_ob Γ x 5 [.ref (x + 1), .int 0, .int 0, .ref (x + 2), .ref (x + 3), .ref (x + 4), .ref (x + 5), .int 0] H ∧ mw_ia Γ (x + 1) 9411 (upd (upd (upd (upd (upd (upd (upd (upd (upd (upd (fun _ => 0) 1 (nI 2)) 4 (-1)) 5 (-1)) 6 (-1)) 23 (-1)) 24 (-1)) 25 (-1)) 26 (-1)) 27 (nI 1)) 32 (nI 1)) H ∧ mw_ia Γ (x + 2) 2 (fun _ => 0) H ∧ mw_ia Γ (x + 3) 20 (fun _ => 0) H ∧ mw_ia Γ (x + 4) 20 (fun _ => 0) H ∧ mw_ia Γ (x + 5) 20 (fun _ => 0) H ∧ True) 32 (by decide) rfl (fun H h => ⟨by first | omega | (dsimp only; omega), _, _, h.2.2.1, by omega, by decide, fun H1 o c => ⟨o.1.trans h.1, h.2.1.kp (fun q a z => o.2 q (by omega)), c, h.2.2.2.1.kept (o.2 _ (by omega)), h.2.2.2.2.1.kept (o.2 _ (by omega)), h.2.2.2.2.2.1.kept (o.2 _ (by omega)), h.2.2.2.2.2.2.1.kept (o.2 _ (by omega)), trivial⟩⟩) ?_
  refine mw_steps X 1 (pc' := 113) (lv' := [(1, .int (((((nI 1) + (nI 1)) + (nI 1)) + (nI 1)) + (nI 1))), (0, .ref x)]) (st' := [.ref x]) rfl ?_
  refine mw_get X kf_X5_7.fl kc_5 rfl (v := .ref (x + 1)) (fun H h => ⟨_, h.2.1, rfl⟩) ?_
  refine mw_steps X 2 (pc' := 119) (lv' := [(1, .int (((((nI 1) + (nI 1)) + (nI 1)) + (nI 1)) + (nI 1))), (0, .ref x)]) (st' := [.int (nI 1), .int (nI 47), .ref (x + 1)]) rfl ?_
  refine mw_iast X (I1 := fun H => H.size = x + 6 ∧ mw_ob Γ x 5 [.ref (x + 1), .int 0, .int 0, .ref (x + 2), .ref (x + 3), .ref (x + 4), .ref (x + 5), .int 0] H ∧ mw_ia Γ (x + 1) 9411 (upd (upd (upd (upd (upd (upd (upd (upd (upd (upd (upd (fun _ => 0) 1 (nI 2)) 4 (-1)) 5 (-1)) 6 (-1)) 23 (-1)) 24 (-1)) 25 (-1)) 26 (-1)) 27 (nI 1)) 32 (nI 1)) 47 (nI 1)) H ∧ mw_ia Γ (x + 2) 2 (fun _ => 0) H ∧ mw_ia Γ (x + 3) 20 (fun _ => 0) H ∧ mw_ia Γ (x + 4) 20 (fun _ => 0) H ∧ mw_ia Γ (x + 5) 20 (fun _ => 0) H ∧ True) 47 (by decide) rfl (fun H h => ⟨by first | omega | (dsimp only; omega), _, _, h.2.2.1, by omega, by decide, fun H1 o c => ⟨o.1.trans h.1, h.2.1.kp (fun q a z => o.2 q (by omega)), c, h.2.2.2.1.kept (o.2 _ (by omega)), h.2.2.2.2.1.kept (o.2 _ (by omega)), h.2.2.2.2.2.1.kept (o.2 _ (by omega)), h.2.2.2.2.2.2.1.kept (o.2 _ (by omega)), trivial⟩⟩) ?_
  refine mw_steps X 1 (pc' := 121) (lv' := [(1, .int (((((nI 1) + (nI 1)) + (nI 1)) + (nI 1)) + (nI 1))), (0, .ref x)]) (st' := [.ref x]) rfl ?_
  refine mw_get X kf_X5_7.fl kc_5 rfl (v := .ref (x + 1)) (fun H h => ⟨_, h.2.1, rfl⟩) ?_
  refine mw_steps X 2 (pc' := 127) (lv' := [(1, .int (((((nI 1) + (nI 1)) + (nI 1)) + (nI 1)) + (nI 1))), (0, .ref x)]) (st' := [.int (nI 1), .int (nI 48), .ref (x + 1)]) rfl ?_
  refine mw_iast X (I1 := fun H => H.size = x + 6 ∧ mw_ob Γ x 5 [.ref (x + 1), .int 0, .int 0, .ref (x + 2), .ref (x + 3), .ref (x + 4), .ref (x + 5), .int 0] H ∧ mw_ia Γ (x + 1) 9411 (upd (upd (upd (upd (upd (upd (upd (upd (upd (upd (upd (upd (fun _ => 0) 1 (nI 2)) 4 (-1)) 5 (-1)) 6 (-1)) 23 (-1)) 24 (-1)) 25 (-1)) 26 (-1)) 27 (nI 1)) 32 (nI 1)) 47 (nI 1)) 48 (nI 1)) H ∧ mw_ia Γ (x + 2) 2 (fun _ => 0) H ∧ mw_ia Γ (x + 3) 20 (fun _ => 0) H ∧ mw_ia Γ (x + 4) 20 (fun _ => 0) H ∧ mw_ia Γ (x + 5) 20 (fun _ => 0) H ∧ True) 48 (by decide) rfl (fun H h => ⟨by first | omega | (dsimp only; omega), _, _, h.2.2.1, by omega, by decide, fun H1 o c => ⟨o.1.trans h.1, h.2.1.kp (fun q a z => o.2 q (by omega)), c, h.2.2.2.1.kept (o.2 _ (by omega)), h.2.2.2.2.1.kept (o.2 _ (by omega)), h.2.2.2.2.2.1.kept (o.2 _ (by omega)), h.2.2.2.2.2.2.1.kept (o.2 _ (by omega)), trivial⟩⟩) ?_
  refine mw_steps X 1 (pc' := 129) (lv' := [(1, .int (((((nI 1) + (nI 1)) + (nI 1)) + (nI 1)) + (nI 1))), (0, .ref x)]) (st' := [.ref x]) rfl ?_
  refine mw_get X kf_X5_7.fl kc_5 rfl (v := .ref (x + 1)) (fun H h => ⟨_, h.2.1, rfl⟩) ?_
  refine mw_steps X 2 (pc' := 135) (lv' := [(1, .int (((((nI 1) + (nI 1)) + (nI 1)) + (nI 1)) + (nI 1))), (0, .ref x)]) (st' := [.int (nI 1), .int (nI 88), .ref (x + 1)]) rfl ?_
  refine mw_iast X (I1 := fun H => H.size = x + 6 ∧ mw_ob Γ x 5 [.ref (x + 1), .int 0, .int 0, .ref (x + 2), .ref (x + 3), .ref (x + 4), .ref (x + 5), .int 0] H ∧ mw_ia Γ (x + 1) 9411 (upd (upd (upd (upd (upd (upd (upd (upd (upd (upd (upd (upd (upd (fun _ => 0) 1 (nI 2)) 4 (-1)) 5 (-1)) 6 (-1)) 23 (-1)) 24 (-1)) 25 (-1)) 26 (-1)) 27 (nI 1)) 32 (nI 1)) 47 (nI 1)) 48 (nI 1)) 88 (nI 1)) H ∧ mw_ia Γ (x + 2) 2 (fun _ => 0) H ∧ mw_ia Γ (x + 3) 20 (fun _ => 0) H ∧ mw_ia Γ (x + 4) 20 (fun _ => 0) H ∧ mw_ia Γ (x + 5) 20 (fun _ => 0) H ∧ True) 88 (by decide) rfl (fun H h => ⟨by first | omega | (dsimp only; omega), _, _, h.2.2.1, by omega, by decide, fun H1 o c => ⟨o.1.trans h.1, h.2.1.kp (fun q a z => o.2 q (by omega)), c, h.2.2.2.1.kept (o.2 _ (by omega)), h.2.2.2.2.1.kept (o.2 _ (by omega)), h.2.2.2.2.2.1.kept (o.2 _ (by omega)), h.2.2.2.2.2.2.1.kept (o.2 _ (by omega)), trivial⟩⟩) ?_
  exact mw_vret X rfl rfl (fun H h => ⟨rfl, ⟨h.2.1, h.2.2.1, h.2.2.2.1, h.2.2.2.2.1, h.2.2.2.2.2.1, h.2.2.2.2.2.2.1⟩, h.1⟩)
set_option maxHeartbeats 8000000 in
set_option maxRecDepth 20000 in
theorem zx_keepU {l : Launch} {Γ : mw_C} {x : Nat} (hx : Γ.2.2.2 ≤ x) {W : Nat → Int32} {ρ : md_R} {im : Nat → Option Nat} {H : Heap} {y : Int32} (hH : mx_I Γ x W ρ H) (hra : mw_ra Γ (x + 29) 2 im H) (hy : mo_bl y 2 = false) : mw_Cr l Γ mX4_keep 1 0 0 (fun _ => False) [.ref x, .int y] H (some (.int oU)) (fun H' => mx_I Γ x W ρ H' ∧ mw_ra Γ (x + 29) 2 im H') := by
  refine mw_ofG (P := pX4_keep) (by decide) (fun _ z => z.elim) oX4_keep (Nat.le_of_ble_eq_true rfl) ?_
  intro pg e0 sg mg below meth cd X hs0
  refine mw_pre (I' := fun H => mx_I Γ x W ρ H ∧ mw_ra Γ (x + 29) 2 im H ∧ True) (fun H1 h1 => by rw [h1]; exact ⟨hH, hra, trivial⟩) ?_
  refine mw_steps X 1 (pc' := 1) (lv' := [(0, .ref x), (1, .int y)]) (st' := [.int y]) rfl ?_
  refine mw_if_lt X 13 rfl rfl (fun c1 => ?_) (fun c1 => ?_)
  · refine mw_ldc X kk_X4_99 rfl ?_
    exact mw_iret X rfl rfl (fun H h => ⟨rfl, h.1, h.2.1⟩)
  · refine mw_steps X 2 (pc' := 6) (lv' := [(0, .ref x), (1, .int y)]) (st' := [.ref x, .int y]) rfl ?_
    refine mw_get X kf_X4_25.fl kc_4 rfl (v := .ref (x + 29)) (fun H h => ⟨_, h.1.1, rfl⟩) ?_
    refine mw_rlen X 2 rfl (fun H h => ⟨_, h.2.1⟩) ?_
    refine mw_icmp_lt X 16 rfl rfl (fun c10 => absurd c10 (fun q => by unfold mo_bl at hy; rw [decide_eq_true (Int32.not_lt.mp c1), decide_eq_true q] at hy; cases hy)) (fun c10 => ?_)
    refine mw_ldc X kk_X4_99 rfl ?_
    exact mw_iret X rfl rfl (fun H h => ⟨rfl, h.1, h.2.1⟩)
set_option maxHeartbeats 8000000 in
set_option maxRecDepth 20000 in
theorem zx_goBackU {l : Launch} {Γ : mw_C} {x : Nat} (hx : Γ.2.2.2 ≤ x) {W : Nat → Int32} {ρ : md_R} {im : Nat → Option Nat} {H : Heap} {y : Int32} (hH : mx_I Γ x W ρ H) (hra : mw_ra Γ (x + 29) 2 im H) (hy : mo_bl y 2 = false) : mw_Cr l Γ mX4_goBack 1 0 0 (fun _ => False) [.ref x, .int y] H (some (.int oU)) (fun H' => mx_I Γ x W ρ H' ∧ mw_ra Γ (x + 29) 2 im H') := by
  refine mw_ofG (P := pX4_goBack) (by decide) (fun _ z => z.elim) oX4_goBack (Nat.le_of_ble_eq_true rfl) ?_
  intro pg e0 sg mg below meth cd X hs0
  refine mw_pre (I' := fun H => mx_I Γ x W ρ H ∧ mw_ra Γ (x + 29) 2 im H ∧ True) (fun H1 h1 => by rw [h1]; exact ⟨hH, hra, trivial⟩) ?_
  refine mw_steps X 1 (pc' := 1) (lv' := [(0, .ref x), (1, .int y)]) (st' := [.int y]) rfl ?_
  refine mw_if_lt X 13 rfl rfl (fun c1 => ?_) (fun c1 => ?_)
  · refine mw_ldc X kk_X4_99 rfl ?_
    exact mw_iret X rfl rfl (fun H h => ⟨rfl, h.1, h.2.1⟩)
  · refine mw_steps X 2 (pc' := 6) (lv' := [(0, .ref x), (1, .int y)]) (st' := [.ref x, .int y]) rfl ?_
    refine mw_get X kf_X4_25.fl kc_4 rfl (v := .ref (x + 29)) (fun H h => ⟨_, h.1.1, rfl⟩) ?_
    refine mw_rlen X 2 rfl (fun H h => ⟨_, h.2.1⟩) ?_
    refine mw_icmp_lt X 16 rfl rfl (fun c10 => absurd c10 (fun q => by unfold mo_bl at hy; rw [decide_eq_true (Int32.not_lt.mp c1), decide_eq_true q] at hy; cases hy)) (fun c10 => ?_)
    refine mw_ldc X kk_X4_99 rfl ?_
    exact mw_iret X rfl rfl (fun H h => ⟨rfl, h.1, h.2.1⟩)
set_option maxHeartbeats 8000000 in
set_option maxRecDepth 20000 in
theorem zx_keepS {l : Launch} {Γ : mw_C} {x : Nat} (hx : Γ.2.2.2 ≤ x) {W : Nat → Int32} {ρ : md_R} {im : Nat → Option Nat} {H : Heap} {i a : Nat} {V : Nat → Int32} {vs : Int32} (hH : mx_I Γ x W ρ H) (hra : mw_ra Γ (x + 29) 2 im H) (hi : i < 2) (him : im i = some a) (ha : x + 30 ≤ a) (hV : ws_I Γ a V vs H) : mw_Cr l Γ mX4_keep 4 0 0 (ws_A a) [.ref x, .int (nI i)] H (some (.int (nI 1))) (fun H' => mx_I Γ x W ρ H' ∧ mw_ra Γ (x + 29) 2 im H' ∧ ws_I Γ a W ρ.2.1 H') := by
  refine mw_ofG (P := pX4_keep) (by decide) (ws_As (Nat.le_trans hx (by omega))) oX4_keep (Nat.le_of_ble_eq_true rfl) ?_
  intro pg e0 sg mg below meth cd X hs0
  refine mw_pre (I' := fun H => mx_I Γ x W ρ H ∧ mw_ra Γ (x + 29) 2 im H ∧ ws_I Γ a V vs H ∧ True) (fun H1 h1 => by rw [h1]; exact ⟨hH, hra, hV, trivial⟩) ?_
  refine mw_steps X 1 (pc' := 1) (lv' := [(0, .ref x), (1, .int (nI i))]) (st' := [.int (nI i)]) rfl ?_
  refine mw_if_lt X 13 rfl rfl (fun c1 => absurd c1 (nI_pos (by omega))) (fun c1 => ?_)
  refine mw_steps X 2 (pc' := 6) (lv' := [(0, .ref x), (1, .int (nI i))]) (st' := [.ref x, .int (nI i)]) rfl ?_
  refine mw_get X kf_X4_25.fl kc_4 rfl (v := .ref (x + 29)) (fun H h => ⟨_, h.1.1, rfl⟩) ?_
  refine mw_rlen X 2 rfl (fun H h => ⟨_, h.2.1⟩) ?_
  refine mw_icmp_lt X 16 rfl rfl (fun c10 => ?_) (fun c10 => absurd (by rw [nI_ltI (by omega) (by omega)]; omega) c10)
  refine mw_steps X 1 (pc' := 17) (lv' := [(0, .ref x), (1, .int (nI i))]) (st' := [.ref x]) rfl ?_
  refine mw_get X kf_X4_25.fl kc_4 rfl (v := .ref (x + 29)) (fun H h => ⟨_, h.1.1, rfl⟩) ?_
  refine mw_steps X 1 (pc' := 21) (lv' := [(0, .ref x), (1, .int (nI i))]) (st' := [.int (nI i), .ref (x + 29)]) rfl ?_
  refine mw_aald X (v := some a) i rfl rfl (fun H h => ⟨_, _, h.2.1, hi, by decide, him⟩) ?_
  refine mw_steps X 2 (pc' := 24) (lv' := [(2, .ref a), (0, .ref x), (1, .int (nI i))]) (st' := [.ref a]) rfl ?_
  refine mw_ifnn X 42 rfl rfl ?_
  refine mw_steps X 2 (pc' := 44) (lv' := [(2, .ref a), (0, .ref x), (1, .int (nI i))]) (st' := [.ref x, .ref a]) rfl ?_
  refine mw_get X kf_X4_10.fl kc_4 rfl (v := .ref (x + 1)) (fun H h => ⟨_, h.1.1, rfl⟩) ?_
  refine mw_cV1v X kd_X3_becomes kv_X3_becomes kl_X4_191 (ci := 3) rfl rfl (Nat.le_of_ble_eq_true rfl) ⟨Nat.le_of_ble_eq_true rfl, Nat.le_of_ble_eq_true rfl⟩ ⟨Nat.le_of_ble_eq_true rfl, Nat.le_of_ble_eq_true rfl⟩ (fun _ h => h) (fun H h => ⟨⟨_, h.2.2.1.1⟩, mw_Cr.wide (J' := fun H => mx_I Γ x W ρ H ∧ mw_ra Γ (x + 29) 2 im H ∧ ws_I Γ a W ρ.2.1 H ∧ True) (zw_becomes (by omega) (by omega) (by omega) h.2.2.1 h.1.2.1) (fun H1 hJ _ hf => ⟨⟨h.1.1.kp (fun q a z => hf q a (fun w => by unfold ws_A at w; omega)), hJ.2, h.1.2.2.1, h.1.2.2.2.kp (fun q a z => hf q a (fun w => by unfold ws_A at w; unfold tb_A at z; omega))⟩, h.2.1.kept (hf _ h.2.1.lt (fun w => by unfold ws_A at w; omega)), hJ.1, trivial⟩)⟩) ?_
  refine mw_steps X 1 (pc' := 51) (lv' := [(2, .ref a), (0, .ref x), (1, .int (nI i))]) (st' := [.int (nI 1)]) rfl ?_
  exact mw_iret X rfl rfl (fun H h => ⟨rfl, h.1, h.2.1, h.2.2.1⟩)
set_option maxHeartbeats 8000000 in
set_option maxRecDepth 20000 in
theorem zx_keepN {l : Launch} {Γ : mw_C} {x : Nat} (hx : Γ.2.2.2 ≤ x) {W : Nat → Int32} {ρ : md_R} {im : Nat → Option Nat} {H : Heap} {i hz : Nat} (hH : mx_I Γ x W ρ H) (hra : mw_ra Γ (x + 29) 2 im H) (hi : i < 2) (him : im i = none) (hh : x + 30 ≤ hz) (hs : H.size = hz) : mw_Cr l Γ mX4_keep 5 26 4225 (fun q => q = x + 29 ∨ hz ≤ q) [.ref x, .int (nI i)] H (some (.int (nI 1))) (fun H' => (mx_I Γ x W ρ H' ∧ mw_ra Γ (x + 29) 2 (va_up im i (some hz)) H' ∧ ws_I Γ hz W ρ.2.1 H') ∧ H'.size = hz + 26) := by
  refine mw_ofG (P := pX4_keep) (by decide) (fun q hq => by rcases hq with z | z <;> omega) oX4_keep (Nat.le_of_ble_eq_true rfl) ?_
  intro pg e0 sg mg below meth cd X hs0
  refine mw_pre (I' := fun H => H.size = hz ∧ mx_I Γ x W ρ H ∧ mw_ra Γ (x + 29) 2 im H ∧ True) (fun H1 h1 => by rw [h1]; exact ⟨hs, hH, hra, trivial⟩) ?_
  refine mw_steps X 1 (pc' := 1) (lv' := [(0, .ref x), (1, .int (nI i))]) (st' := [.int (nI i)]) rfl ?_
  refine mw_if_lt X 13 rfl rfl (fun c1 => absurd c1 (nI_pos (by omega))) (fun c1 => ?_)
  refine mw_steps X 2 (pc' := 6) (lv' := [(0, .ref x), (1, .int (nI i))]) (st' := [.ref x, .int (nI i)]) rfl ?_
  refine mw_get X kf_X4_25.fl kc_4 rfl (v := .ref (x + 29)) (fun H h => ⟨_, h.2.1.1, rfl⟩) ?_
  refine mw_rlen X 2 rfl (fun H h => ⟨_, h.2.2.1⟩) ?_
  refine mw_icmp_lt X 16 rfl rfl (fun c10 => ?_) (fun c10 => absurd (by rw [nI_ltI (by omega) (by omega)]; omega) c10)
  refine mw_steps X 1 (pc' := 17) (lv' := [(0, .ref x), (1, .int (nI i))]) (st' := [.ref x]) rfl ?_
  refine mw_get X kf_X4_25.fl kc_4 rfl (v := .ref (x + 29)) (fun H h => ⟨_, h.2.1.1, rfl⟩) ?_
  refine mw_steps X 1 (pc' := 21) (lv' := [(0, .ref x), (1, .int (nI i))]) (st' := [.int (nI i), .ref (x + 29)]) rfl ?_
  refine mw_aald X (v := none) i rfl rfl (fun H h => ⟨_, _, h.2.2.1, hi, by decide, him⟩) ?_
  refine mw_steps X 2 (pc' := 24) (lv' := [(2, .null), (0, .ref x), (1, .int (nI i))]) (st' := [.null]) rfl ?_
  refine mw_ifnnN X rfl ?_
  refine mw_newo X [.null, .null, .null, .null, .null, .null, .null, .null, .null, .null, .int 0, .int 0, .int 0, .int 0, .int 0] (ci := 3) rfl kc_3 ko_X4_7 kn_X3 k_inX3 tyX3_ok dfX3 ⟨Nat.le_of_ble_eq_true rfl, Nat.le_of_ble_eq_true rfl⟩ rfl (h := hz) (I1 := fun H => H.size = hz + 1 ∧ mx_I Γ x W ρ H ∧ mw_ra Γ (x + 29) 2 im H ∧ mw_ob Γ hz 3 [.null, .null, .null, .null, .null, .null, .null, .null, .null, .null, .int 0, .int 0, .int 0, .int 0, .int 0] H ∧ True) (fun H h => ⟨h.1, fun H1 n c => ⟨n.2.1, h.2.1.kpM (fun q a z => n.2.2 q (by unfold mx_A at z; omega)), h.2.2.1.kept (n.2.2 _ (by omega)), c, trivial⟩⟩) ?_
  refine mw_steps X 1 (pc' := 31) (lv' := [(2, .null), (0, .ref x), (1, .int (nI i))]) (st' := [.ref hz, .ref hz]) rfl ?_
  refine mw_cI0 X kd_X3_init rfl rfl ki_X3_init (Or.inl kl_X4_9) rfl (Nat.le_of_ble_eq_true rfl) ⟨Nat.le_of_ble_eq_true rfl, Nat.le_of_ble_eq_true rfl⟩ ⟨Nat.le_of_ble_eq_true rfl, Nat.le_of_ble_eq_true rfl⟩ (fun q z => Or.inr z) (fun H h => mw_Cr.wide (J' := fun H => H.size = hz + 26 ∧ mx_I Γ x W ρ H ∧ mw_ra Γ (x + 29) 2 im H ∧ ws_I Γ hz mo_W0 0 H ∧ True) (zi_ways (by omega) h.2.2.2.1 h.1) (fun H1 hJ _ hf => ⟨hJ.2, h.2.1.kpM (fun q a z => hf q a (fun w => by have w2 : hz ≤ q := w; unfold mx_A at z; omega)), h.2.2.1.kept (hf _ h.2.2.1.lt (fun w => by have w2 : hz ≤ x + 29 := w; omega)), hJ.1, trivial⟩)) ?_
  refine mw_steps X 2 (pc' := 36) (lv' := [(2, .ref hz), (0, .ref x), (1, .int (nI i))]) (st' := [.ref x]) rfl ?_
  refine mw_get X kf_X4_25.fl kc_4 rfl (v := .ref (x + 29)) (fun H h => ⟨_, h.2.1.1, rfl⟩) ?_
  refine mw_steps X 2 (pc' := 41) (lv' := [(2, .ref hz), (0, .ref x), (1, .int (nI i))]) (st' := [.ref hz, .int (nI i), .ref (x + 29)]) rfl ?_
  refine mw_aast X (I1 := fun H => H.size = hz + 26 ∧ mx_I Γ x W ρ H ∧ mw_ra Γ (x + 29) 2 (va_up im i (some hz)) H ∧ ws_I Γ hz mo_W0 0 H ∧ True) i rfl rfl (fun H h => ⟨Or.inl rfl, ⟨_, h.2.2.2.1.1⟩, _, _, h.2.2.1, hi, by decide, fun H1 o c => ⟨o.1.trans h.1, h.2.1.kpM (fun q a z => o.2 q (by unfold mx_A at z; omega)), c, h.2.2.2.1.kpA (fun q a z => o.2 q (by unfold ws_A at z; omega)), trivial⟩⟩) ?_
  refine mw_steps X 2 (pc' := 44) (lv' := [(2, .ref hz), (0, .ref x), (1, .int (nI i))]) (st' := [.ref x, .ref hz]) rfl ?_
  refine mw_get X kf_X4_10.fl kc_4 rfl (v := .ref (x + 1)) (fun H h => ⟨_, h.2.1.1, rfl⟩) ?_
  refine mw_cV1v X kd_X3_becomes kv_X3_becomes kl_X4_191 (ci := 3) rfl rfl (Nat.le_of_ble_eq_true rfl) ⟨Nat.le_of_ble_eq_true rfl, Nat.le_of_ble_eq_true rfl⟩ ⟨Nat.le_of_ble_eq_true rfl, Nat.le_of_ble_eq_true rfl⟩ (fun q z => Or.inr (by unfold ws_A at z; omega)) (fun H h => ⟨⟨_, h.2.2.2.1.1⟩, mw_Cr.wide (J' := fun H => H.size = hz + 26 ∧ mx_I Γ x W ρ H ∧ mw_ra Γ (x + 29) 2 (va_up im i (some hz)) H ∧ ws_I Γ hz W ρ.2.1 H ∧ True) (mw_Cr.sz (zw_becomes (by omega) (by omega) (by omega) h.2.2.2.1 h.2.1.2.1)) (fun H1 hJ _ hf => ⟨hJ.2.trans h.1, ⟨h.2.1.1.kp (fun q a z => hf q a (fun w => by unfold ws_A at w; omega)), hJ.1.2, h.2.1.2.2.1, h.2.1.2.2.2.kp (fun q a z => hf q a (fun w => by unfold ws_A at w; unfold tb_A at z; omega))⟩, h.2.2.1.kept (hf _ h.2.2.1.lt (fun w => by unfold ws_A at w; omega)), hJ.1.1, trivial⟩)⟩) ?_
  refine mw_steps X 1 (pc' := 51) (lv' := [(2, .ref hz), (0, .ref x), (1, .int (nI i))]) (st' := [.int (nI 1)]) rfl ?_
  exact mw_iret X rfl rfl (fun H h => ⟨rfl, ⟨h.2.1, h.2.2.1, h.2.2.2.1⟩, h.1⟩)
set_option maxHeartbeats 8000000 in
set_option maxRecDepth 20000 in
theorem zx_goBackN {l : Launch} {Γ : mw_C} {x : Nat} (hx : Γ.2.2.2 ≤ x) {W : Nat → Int32} {ρ : md_R} {im : Nat → Option Nat} {H : Heap} {i : Nat} (hH : mx_I Γ x W ρ H) (hra : mw_ra Γ (x + 29) 2 im H) (hi : i < 2) (him : im i = none) : mw_Cr l Γ mX4_goBack 1 0 0 (fun _ => False) [.ref x, .int (nI i)] H (some (.int oN)) (fun H' => mx_I Γ x W ρ H' ∧ mw_ra Γ (x + 29) 2 im H') := by
  refine mw_ofG (P := pX4_goBack) (by decide) (fun _ z => z.elim) oX4_goBack (Nat.le_of_ble_eq_true rfl) ?_
  intro pg e0 sg mg below meth cd X hs0
  refine mw_pre (I' := fun H => mx_I Γ x W ρ H ∧ mw_ra Γ (x + 29) 2 im H ∧ True) (fun H1 h1 => by rw [h1]; exact ⟨hH, hra, trivial⟩) ?_
  refine mw_steps X 1 (pc' := 1) (lv' := [(0, .ref x), (1, .int (nI i))]) (st' := [.int (nI i)]) rfl ?_
  refine mw_if_lt X 13 rfl rfl (fun c1 => absurd c1 (nI_pos (by omega))) (fun c1 => ?_)
  refine mw_steps X 2 (pc' := 6) (lv' := [(0, .ref x), (1, .int (nI i))]) (st' := [.ref x, .int (nI i)]) rfl ?_
  refine mw_get X kf_X4_25.fl kc_4 rfl (v := .ref (x + 29)) (fun H h => ⟨_, h.1.1, rfl⟩) ?_
  refine mw_rlen X 2 rfl (fun H h => ⟨_, h.2.1⟩) ?_
  refine mw_icmp_lt X 16 rfl rfl (fun c10 => ?_) (fun c10 => absurd (by rw [nI_ltI (by omega) (by omega)]; omega) c10)
  refine mw_steps X 1 (pc' := 17) (lv' := [(0, .ref x), (1, .int (nI i))]) (st' := [.ref x]) rfl ?_
  refine mw_get X kf_X4_25.fl kc_4 rfl (v := .ref (x + 29)) (fun H h => ⟨_, h.1.1, rfl⟩) ?_
  refine mw_steps X 1 (pc' := 21) (lv' := [(0, .ref x), (1, .int (nI i))]) (st' := [.int (nI i), .ref (x + 29)]) rfl ?_
  refine mw_aald X (v := none) i rfl rfl (fun H h => ⟨_, _, h.2.1, hi, by decide, him⟩) ?_
  refine mw_steps X 2 (pc' := 24) (lv' := [(2, .null), (0, .ref x), (1, .int (nI i))]) (st' := [.null]) rfl ?_
  refine mw_ifnnN X rfl ?_
  refine mw_ldc X kk_X4_147 rfl ?_
  exact mw_iret X rfl rfl (fun H h => ⟨rfl, h.1, h.2.1⟩)
set_option maxHeartbeats 8000000 in
set_option maxRecDepth 20000 in
theorem zx_goBackS {l : Launch} {Γ : mw_C} {x : Nat} (hx : Γ.2.2.2 ≤ x) {W : Nat → Int32} {ρ : md_R} {im : Nat → Option Nat} {H : Heap} {i a : Nat} {V : Nat → Int32} {vs : Int32} (hH : mx_I Γ x W ρ H) (hra : mw_ra Γ (x + 29) 2 im H) (hi : i < 2) (him : im i = some a) (ha : x + 30 ≤ a) (hV : ws_I Γ a V vs H) : mw_Cr l Γ mX4_goBack 4 0 0 (mx_A x) [.ref x, .int (nI i)] H (some (.int (nI 1))) (fun H' => mx_I Γ x V (ρ.1, vs, ρ.2.2.1, ρ.2.2.2.1, ρ.2.2.2.2.1, ρ.2.2.2.2.2.1, ρ.2.2.2.2.2.2) H' ∧ mw_ra Γ (x + 29) 2 im H' ∧ ws_I Γ a V vs H') := by
  refine mw_ofG (P := pX4_goBack) (by decide) (mx_As hx) oX4_goBack (Nat.le_of_ble_eq_true rfl) ?_
  intro pg e0 sg mg below meth cd X hs0
  refine mw_pre (I' := fun H => mx_I Γ x W ρ H ∧ mw_ra Γ (x + 29) 2 im H ∧ ws_I Γ a V vs H ∧ True) (fun H1 h1 => by rw [h1]; exact ⟨hH, hra, hV, trivial⟩) ?_
  refine mw_steps X 1 (pc' := 1) (lv' := [(0, .ref x), (1, .int (nI i))]) (st' := [.int (nI i)]) rfl ?_
  refine mw_if_lt X 13 rfl rfl (fun c1 => absurd c1 (nI_pos (by omega))) (fun c1 => ?_)
  refine mw_steps X 2 (pc' := 6) (lv' := [(0, .ref x), (1, .int (nI i))]) (st' := [.ref x, .int (nI i)]) rfl ?_
  refine mw_get X kf_X4_25.fl kc_4 rfl (v := .ref (x + 29)) (fun H h => ⟨_, h.1.1, rfl⟩) ?_
  refine mw_rlen X 2 rfl (fun H h => ⟨_, h.2.1⟩) ?_
  refine mw_icmp_lt X 16 rfl rfl (fun c10 => ?_) (fun c10 => absurd (by rw [nI_ltI (by omega) (by omega)]; omega) c10)
  refine mw_steps X 1 (pc' := 17) (lv' := [(0, .ref x), (1, .int (nI i))]) (st' := [.ref x]) rfl ?_
  refine mw_get X kf_X4_25.fl kc_4 rfl (v := .ref (x + 29)) (fun H h => ⟨_, h.1.1, rfl⟩) ?_
  refine mw_steps X 1 (pc' := 21) (lv' := [(0, .ref x), (1, .int (nI i))]) (st' := [.int (nI i), .ref (x + 29)]) rfl ?_
  refine mw_aald X (v := some a) i rfl rfl (fun H h => ⟨_, _, h.2.1, hi, by decide, him⟩) ?_
  refine mw_steps X 2 (pc' := 24) (lv' := [(2, .ref a), (0, .ref x), (1, .int (nI i))]) (st' := [.ref a]) rfl ?_
  refine mw_ifnn X 30 rfl rfl ?_
  refine mw_steps X 1 (pc' := 31) (lv' := [(2, .ref a), (0, .ref x), (1, .int (nI i))]) (st' := [.ref x]) rfl ?_
  refine mw_get X kf_X4_10.fl kc_4 rfl (v := .ref (x + 1)) (fun H h => ⟨_, h.1.1, rfl⟩) ?_
  refine mw_steps X 1 (pc' := 35) (lv' := [(2, .ref a), (0, .ref x), (1, .int (nI i))]) (st' := [.ref a, .ref (x + 1)]) rfl ?_
  refine mw_cV1v X kd_X3_becomes kv_X3_becomes kl_X4_191 (ci := 3) rfl rfl (Nat.le_of_ble_eq_true rfl) ⟨Nat.le_of_ble_eq_true rfl, Nat.le_of_ble_eq_true rfl⟩ ⟨Nat.le_of_ble_eq_true rfl, Nat.le_of_ble_eq_true rfl⟩ (fun q z => mx_sub z) (fun H h => ⟨⟨_, h.1.2.1.1⟩, mw_Cr.wide (J' := fun H => mx_I Γ x V (ρ.1, vs, ρ.2.2.1, ρ.2.2.2.1, ρ.2.2.2.2.1, ρ.2.2.2.2.2.1, ρ.2.2.2.2.2.2) H ∧ mw_ra Γ (x + 29) 2 im H ∧ ws_I Γ a V vs H ∧ True) (zw_becomes (by omega) (by omega) (by omega) h.1.2.1 h.2.2.1) (fun H1 hJ _ hf => ⟨⟨h.1.1.kp (fun q a z => hf q a (fun w => by unfold ws_A at w; omega)), hJ.1, h.1.2.2.1, h.1.2.2.2.kp (fun q a z => hf q a (fun w => by unfold ws_A at w; unfold tb_A at z; omega))⟩, h.2.1.kept (hf _ h.2.1.lt (fun w => by unfold ws_A at w; omega)), hJ.2, trivial⟩)⟩) ?_
  refine mw_steps X 1 (pc' := 39) (lv' := [(2, .ref a), (0, .ref x), (1, .int (nI i))]) (st' := [.int (nI 1)]) rfl ?_
  exact mw_iret X rfl rfl (fun H h => ⟨rfl, h.1, h.2.1, h.2.2.1⟩)
