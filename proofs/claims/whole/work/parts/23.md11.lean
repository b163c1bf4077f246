set_option maxHeartbeats 4000000 in
set_option maxRecDepth 20000 in
theorem cm_draw {l : Launch} {Γ : mw_C} {mb : Nat} (hmb : Γ.2.2.2 ≤ mb) {W : Nat → Int32} {ρ : md_R} {H : Heap} {n : Int32} (hH : md_I Γ mb W ρ H) (hn0 : ¬ n = 0) : mw_Cr l Γ mX5_draw 1 0 0 (md_A mb) [.ref mb, .int n] H (some (.int (mo_draw ρ.2.1 n))) (md_I Γ mb W (ρ.1, mo_seed ρ.2.1, ρ.2.2.1, ρ.2.2.2.1, ρ.2.2.2.2.1, ρ.2.2.2.2.2.1, ρ.2.2.2.2.2.2)) := by
  refine mw_ofG (P := pX5_draw) (by decide) (md_As hmb) oX5_draw (Nat.le_of_ble_eq_true rfl) ?_
  intro pg e0 sg mg below meth cd X hs
  refine mw_pre (I' := md_I Γ mb W ρ) (fun H1 h1 => by rw [h1]; exact hH) ?_
  refine mw_steps X 2 (pc' := 2) (lv' := [(0, .ref mb), (1, .int n)]) (st' := [.ref mb, .ref mb]) rfl ?_
  refine mw_get X kf_X5_135.fl kc_5 rfl (v := .int ρ.2.1) (fun H h => ⟨_, h.1, rfl⟩) ?_
  refine mw_steps X 1 (pc' := 6) (lv' := [(0, .ref mb), (1, .int n)]) (st' := [.long ρ.2.1.toInt64, .ref mb]) rfl ?_
  refine mw_ldc2 X kk_X5_192 rfl ?_
  refine mw_steps X 1 (pc' := 10) (lv' := [(0, .ref mb), (1, .int n)]) (st' := [.long (ρ.2.1.toInt64 * (1103515245)), .ref mb]) rfl ?_
  refine mw_ldc2 X kk_X5_194 rfl ?_
  refine mw_steps X 1 (pc' := 14) (lv' := [(0, .ref mb), (1, .int n)]) (st' := [.long ((ρ.2.1.toInt64 * (1103515245)) + (12345)), .ref mb]) rfl ?_
  refine mw_ldc2 X kk_X5_196 rfl ?_
  refine mw_lrem X (by decide) rfl ?_
  refine mw_steps X 1 (pc' := 19) (lv' := [(0, .ref mb), (1, .int n)]) (st' := [.int ((((ρ.2.1.toInt64 * (1103515245)) + (12345)) - ((ρ.2.1.toInt64 * (1103515245)) + (12345)) / (2147483648) * (2147483648)).toInt32), .ref mb]) rfl ?_
  refine mw_put X kf_X5_135.fl kc_5 ⟨_, _, _, .int, rfl, rfl, by decide, rfl, rfl⟩ rfl (I1 := md_I Γ mb W (ρ.1, (((ρ.2.1.toInt64 * (1103515245)) + (12345)) - ((ρ.2.1.toInt64 * (1103515245)) + (12345)) / (2147483648) * (2147483648)).toInt32, ρ.2.2.1, ρ.2.2.2.1, ρ.2.2.2.2.1, ρ.2.2.2.2.2.1, ρ.2.2.2.2.2.2)) (fun H h => ⟨md_A0, _, h.1, Nat.le_of_ble_eq_true rfl, fun H1 o c => h.stf o c⟩) ?_
  refine mw_steps X 1 (pc' := 23) (lv' := [(0, .ref mb), (1, .int n)]) (st' := [.ref mb]) rfl ?_
  refine mw_get X kf_X5_135.fl kc_5 rfl (v := .int ((((ρ.2.1.toInt64 * (1103515245)) + (12345)) - ((ρ.2.1.toInt64 * (1103515245)) + (12345)) / (2147483648) * (2147483648)).toInt32)) (fun H h => ⟨_, h.1, rfl⟩) ?_
  refine mw_ldc X kk_X5_198 rfl ?_
  refine mw_idiv X (by decide) rfl ?_
  refine mw_steps X 1 (pc' := 30) (lv' := [(0, .ref mb), (1, .int n)]) (st' := [.int n, .int (((((ρ.2.1.toInt64 * (1103515245)) + (12345)) - ((ρ.2.1.toInt64 * (1103515245)) + (12345)) / (2147483648) * (2147483648)).toInt32) / (nI 65536))]) rfl ?_
  refine mw_irem X hn0 rfl ?_
  exact mw_iret X rfl rfl (fun H h => ⟨by rw [mo_draw_e]; rfl, by rw [mo_seed_e]; exact h⟩)
set_option maxHeartbeats 4000000 in
set_option maxRecDepth 20000 in
theorem cm_write {l : Launch} {Γ : mw_C} {mb : Nat} (hmb : Γ.2.2.2 ≤ mb) {W : Nat → Int32} {ρ : md_R} {H : Heap} {x y z : Int32} (hH : md_I Γ mb W ρ H) (hk : iv_k ρ) : mw_Cr l Γ mX5_write 3 0 0 (md_A mb) [.ref mb, .int x, .int y, .int z] H (some (.int (op_write ρ x y z).1)) (md_I Γ mb W (op_write ρ x y z).2) := by
  obtain ⟨n, hn2, hn, -⟩ := hk
  refine mw_ofG (P := pX5_write) (by decide) (md_As hmb) oX5_write (Nat.le_of_ble_eq_true rfl) ?_
  intro pg e0 sg mg below meth cd X hs
  refine mw_pre (I' := md_I Γ mb W ρ) (fun H1 h1 => by rw [h1]; exact hH) ?_
  refine mw_steps X 1 (pc' := 1) (lv' := [(0, .ref mb), (1, .int x), (2, .int y), (3, .int z)]) (st' := [.int x]) rfl ?_
  refine mw_cS1r X kd_X5_isEnd ks_X5_isEnd kl_X5_144 rfl (Nat.le_of_ble_eq_true rfl) ⟨Nat.le_of_ble_eq_true rfl, Nat.le_of_ble_eq_true rfl⟩ ⟨Nat.le_of_ble_eq_true rfl, Nat.le_of_ble_eq_true rfl⟩ (fun _ h => h) (fun H h => cm_isEnd hmb h) ?_
  refine mw_if_ne X 10 rfl rfl (fun c4 => ?_) (fun c4 => ?_)
  · refine mw_steps X 3 (pc' := 13) (lv' := [(0, .ref mb), (1, .int x), (2, .int y), (3, .int z)]) (st' := [.long 0, .long y.toInt64]) rfl ?_
    refine mw_ldc2 X kk_X5_231 rfl ?_
    refine mw_cS3r X kd_X5_in ks_X5_in kl_X5_68 rfl (Nat.le_of_ble_eq_true rfl) ⟨Nat.le_of_ble_eq_true rfl, Nat.le_of_ble_eq_true rfl⟩ ⟨Nat.le_of_ble_eq_true rfl, Nat.le_of_ble_eq_true rfl⟩ (fun _ h => h) (fun H h => cm_in hmb h) ?_
    rw [show mo_in y.toInt64 0 (39) = mo_bl y 40 from mo_in_bl (x := y) (g := 40) (by omega) (by omega)]
    refine mw_if_eq X 32 rfl rfl (fun c19 => ?_) (fun c19 => ?_)
    · refine mw_ldc X kk_X5_138 rfl ?_
      have hop : op_write ρ x y z = ((-1000000002), ρ) := by unfold op_write; rw [if_pos (mo_b_nz c4), if_neg (by first | exact fun q => absurd q.1 (by rw [mo_b_z c19]; decide) | exact fun q => absurd q.2 (by rw [mo_b_z c29]; decide))]
      exact mw_iret X rfl rfl (fun H h => ⟨by rw [hop], by rw [hop]; exact h⟩)
    · refine mw_steps X 4 (pc' := 26) (lv' := [(0, .ref mb), (1, .int x), (2, .int y), (3, .int z)]) (st' := [.long 1, .long 0, .long z.toInt64]) rfl ?_
      refine mw_cS3r X kd_X5_in ks_X5_in kl_X5_68 rfl (Nat.le_of_ble_eq_true rfl) ⟨Nat.le_of_ble_eq_true rfl, Nat.le_of_ble_eq_true rfl⟩ ⟨Nat.le_of_ble_eq_true rfl, Nat.le_of_ble_eq_true rfl⟩ (fun _ h => h) (fun H h => cm_in hmb h) ?_
      rw [show mo_in z.toInt64 0 1 = mo_bl z 2 from mo_in_bl (x := z) (g := 2) (by omega) (by omega)]
      refine mw_if_ne X 35 rfl rfl (fun c29 => ?_) (fun c29 => ?_)
      · refine mw_steps X 1 (pc' := 36) (lv' := [(0, .ref mb), (1, .int x), (2, .int y), (3, .int z)]) (st' := [.ref mb]) rfl ?_
        refine mw_get X kf_X5_119.fl kc_5 rfl (v := .int ρ.2.2.2.2.2.2) (fun H h => ⟨_, h.1, rfl⟩) ?_
        refine mw_steps X 1 (pc' := 41) (lv' := [(0, .ref mb), (1, .int x), (2, .int y), (3, .int z)]) (st' := [.int (nI 20), .int ρ.2.2.2.2.2.2]) rfl ?_
        refine mw_icmp_ne X 47 rfl rfl (fun c41 => ?_) (fun c41 => ?_)
        · have hn20 : n < 20 := by have : ¬ n = 20 := fun q => c41 (by rw [hn, q]); omega
          refine mw_steps X 1 (pc' := 48) (lv' := [(0, .ref mb), (1, .int x), (2, .int y), (3, .int z)]) (st' := [.ref mb]) rfl ?_
          refine mw_get X kf_X5_16.fl kc_5 rfl (v := .ref (mb + 3)) (fun H h => ⟨_, h.1, rfl⟩) ?_
          refine mw_steps X 1 (pc' := 52) (lv' := [(0, .ref mb), (1, .int x), (2, .int y), (3, .int z)]) (st' := [.ref mb, .ref (mb + 3)]) rfl ?_
          refine mw_get X kf_X5_119.fl kc_5 rfl (v := .int ρ.2.2.2.2.2.2) (fun H h => ⟨_, h.1, rfl⟩) ?_
          refine mw_steps X 1 (pc' := 56) (lv' := [(0, .ref mb), (1, .int x), (2, .int y), (3, .int z)]) (st' := [.int x, .int ρ.2.2.2.2.2.2, .ref (mb + 3)]) rfl ?_
          refine mw_iast X (I1 := md_I Γ mb W (ρ.1, ρ.2.1, ρ.2.2.1, upd ρ.2.2.2.1 (n) x, ρ.2.2.2.2.1, ρ.2.2.2.2.2.1, ρ.2.2.2.2.2.2)) (n) hn rfl (fun H h => ⟨md_A3, _, _, h.2.2.2.1, by omega, by decide, fun H1 o c => h.st3 o c⟩) ?_
          refine mw_steps X 1 (pc' := 58) (lv' := [(0, .ref mb), (1, .int x), (2, .int y), (3, .int z)]) (st' := [.ref mb]) rfl ?_
          refine mw_get X kf_X5_19.fl kc_5 rfl (v := .ref (mb + 4)) (fun H h => ⟨_, h.1, rfl⟩) ?_
          refine mw_steps X 1 (pc' := 62) (lv' := [(0, .ref mb), (1, .int x), (2, .int y), (3, .int z)]) (st' := [.ref mb, .ref (mb + 4)]) rfl ?_
          refine mw_get X kf_X5_119.fl kc_5 rfl (v := .int ρ.2.2.2.2.2.2) (fun H h => ⟨_, h.1, rfl⟩) ?_
          refine mw_steps X 1 (pc' := 66) (lv' := [(0, .ref mb), (1, .int x), (2, .int y), (3, .int z)]) (st' := [.int y, .int ρ.2.2.2.2.2.2, .ref (mb + 4)]) rfl ?_
          refine mw_iast X (I1 := md_I Γ mb W (ρ.1, ρ.2.1, ρ.2.2.1, upd ρ.2.2.2.1 (n) x, upd ρ.2.2.2.2.1 (n) y, ρ.2.2.2.2.2.1, ρ.2.2.2.2.2.2)) (n) hn rfl (fun H h => ⟨md_A4, _, _, h.2.2.2.2.1, by omega, by decide, fun H1 o c => h.st4 o c⟩) ?_
          refine mw_steps X 1 (pc' := 68) (lv' := [(0, .ref mb), (1, .int x), (2, .int y), (3, .int z)]) (st' := [.ref mb]) rfl ?_
          refine mw_get X kf_X5_22.fl kc_5 rfl (v := .ref (mb + 5)) (fun H h => ⟨_, h.1, rfl⟩) ?_
          refine mw_steps X 1 (pc' := 72) (lv' := [(0, .ref mb), (1, .int x), (2, .int y), (3, .int z)]) (st' := [.ref mb, .ref (mb + 5)]) rfl ?_
          refine mw_get X kf_X5_119.fl kc_5 rfl (v := .int ρ.2.2.2.2.2.2) (fun H h => ⟨_, h.1, rfl⟩) ?_
          refine mw_steps X 1 (pc' := 76) (lv' := [(0, .ref mb), (1, .int x), (2, .int y), (3, .int z)]) (st' := [.int z, .int ρ.2.2.2.2.2.2, .ref (mb + 5)]) rfl ?_
          refine mw_iast X (I1 := md_I Γ mb W (ρ.1, ρ.2.1, ρ.2.2.1, upd ρ.2.2.2.1 (n) x, upd ρ.2.2.2.2.1 (n) y, upd ρ.2.2.2.2.2.1 (n) z, ρ.2.2.2.2.2.2)) (n) hn rfl (fun H h => ⟨md_A5, _, _, h.2.2.2.2.2, by omega, by decide, fun H1 o c => h.st5 o c⟩) ?_
          refine mw_steps X 2 (pc' := 79) (lv' := [(0, .ref mb), (1, .int x), (2, .int y), (3, .int z)]) (st' := [.ref mb, .ref mb]) rfl ?_
          refine mw_get X kf_X5_119.fl kc_5 rfl (v := .int ρ.2.2.2.2.2.2) (fun H h => ⟨_, h.1, rfl⟩) ?_
          refine mw_steps X 2 (pc' := 84) (lv' := [(0, .ref mb), (1, .int x), (2, .int y), (3, .int z)]) (st' := [.int (ρ.2.2.2.2.2.2 + (nI 1)), .ref mb]) rfl ?_
          refine mw_put X kf_X5_119.fl kc_5 ⟨_, _, _, .int, rfl, rfl, by decide, rfl, rfl⟩ rfl (I1 := md_I Γ mb W (ρ.1, ρ.2.1, ρ.2.2.1, upd ρ.2.2.2.1 (n) x, upd ρ.2.2.2.2.1 (n) y, upd ρ.2.2.2.2.2.1 (n) z, ρ.2.2.2.2.2.2 + (nI 1))) (fun H h => ⟨md_A0, _, h.1, Nat.le_of_ble_eq_true rfl, fun H1 o c => h.stf o c⟩) ?_
          refine mw_steps X 1 (pc' := 88) (lv' := [(0, .ref mb), (1, .int x), (2, .int y), (3, .int z)]) (st' := [.ref mb]) rfl ?_
          refine mw_get X kf_X5_119.fl kc_5 rfl (v := .int (ρ.2.2.2.2.2.2 + (nI 1))) (fun H h => ⟨_, h.1, rfl⟩) ?_
          have hop : op_write ρ x y z = (ρ.2.2.2.2.2.2 + (nI 1), (ρ.1, ρ.2.1, ρ.2.2.1, upd ρ.2.2.2.1 (n) x, upd ρ.2.2.2.2.1 (n) y, upd ρ.2.2.2.2.2.1 (n) z, ρ.2.2.2.2.2.2 + (nI 1))) := by unfold op_write; rw [if_pos (mo_b_nz c4), if_pos ⟨mo_b_nz c19, mo_b_nz c29⟩, if_neg c41, show mo_n ρ.2.2.2.2.2.2 = n from by rw [hn, ml_n (by omega)]]
          exact mw_iret X rfl rfl (fun H h => ⟨by rw [hop], by rw [hop]; exact h⟩)
        · refine mw_ldc X kk_X5_161 rfl ?_
          have hop : op_write ρ x y z = ((-1000000004), ρ) := by unfold op_write; rw [if_pos (mo_b_nz c4), if_pos ⟨mo_b_nz c19, mo_b_nz c29⟩, if_pos c41]
          exact mw_iret X rfl rfl (fun H h => ⟨by rw [hop], by rw [hop]; exact h⟩)
      · refine mw_ldc X kk_X5_138 rfl ?_
        have hop : op_write ρ x y z = ((-1000000002), ρ) := by unfold op_write; rw [if_pos (mo_b_nz c4), if_neg (by first | exact fun q => absurd q.1 (by rw [mo_b_z c19]; decide) | exact fun q => absurd q.2 (by rw [mo_b_z c29]; decide))]
        exact mw_iret X rfl rfl (fun H h => ⟨by rw [hop], by rw [hop]; exact h⟩)
  · refine mw_ldc X kk_X5_147 rfl ?_
    have hop : op_write ρ x y z = ((-1000000001), ρ) := by unfold op_write; rw [if_neg (by rw [mo_b_z c4]; decide)]
    exact mw_iret X rfl rfl (fun H h => ⟨by rw [hop], by rw [hop]; exact h⟩)
set_option maxHeartbeats 4000000 in
set_option maxRecDepth 20000 in
theorem cm_tear {l : Launch} {Γ : mw_C} {mb : Nat} (hmb : Γ.2.2.2 ≤ mb) {W : Nat → Int32} {ρ : md_R} {H : Heap}  (hH : md_I Γ mb W ρ H)  : mw_Cr l Γ mX5_tear 1 0 0 (md_A mb) [.ref mb] H (some (.int (op_tear ρ).1)) (md_I Γ mb W (op_tear ρ).2) := by
  refine mw_ofG (P := pX5_tear) (by decide) (md_As hmb) oX5_tear (Nat.le_of_ble_eq_true rfl) ?_
  intro pg e0 sg mg below meth cd X hs
  refine mw_pre (I' := md_I Γ mb W ρ) (fun H1 h1 => by rw [h1]; exact hH) ?_
  refine mw_steps X 1 (pc' := 1) (lv' := [(0, .ref mb)]) (st' := [.ref mb]) rfl ?_
  refine mw_get X kf_X5_119.fl kc_5 rfl (v := .int ρ.2.2.2.2.2.2) (fun H h => ⟨_, h.1, rfl⟩) ?_
  refine mw_steps X 3 (pc' := 7) (lv' := [(1, .int ρ.2.2.2.2.2.2), (0, .ref mb)]) (st' := [.int (nI 0), .ref mb]) rfl ?_
  refine mw_put X kf_X5_119.fl kc_5 ⟨_, _, _, .int, rfl, rfl, by decide, rfl, rfl⟩ rfl (I1 := md_I Γ mb W (ρ.1, ρ.2.1, ρ.2.2.1, ρ.2.2.2.1, ρ.2.2.2.2.1, ρ.2.2.2.2.2.1, nI 0)) (fun H h => ⟨md_A0, _, h.1, Nat.le_of_ble_eq_true rfl, fun H1 o c => h.stf o c⟩) ?_
  refine mw_steps X 1 (pc' := 11) (lv' := [(1, .int ρ.2.2.2.2.2.2), (0, .ref mb)]) (st' := [.int ρ.2.2.2.2.2.2]) rfl ?_
  exact mw_iret X rfl rfl (fun H h => ⟨rfl, h⟩)
set_option maxHeartbeats 4000000 in
set_option maxRecDepth 20000 in
theorem cm_seed {l : Launch} {Γ : mw_C} {mb : Nat} (hmb : Γ.2.2.2 ≤ mb) {W : Nat → Int32} {ρ : md_R} {H : Heap} {x : Int32} (hH : md_I Γ mb W ρ H)  : mw_Cr l Γ mX5_seed 1 0 0 (md_A mb) [.ref mb, .int x] H (some (.int (op_seed ρ x).1)) (md_I Γ mb W (op_seed ρ x).2) := by
  refine mw_ofG (P := pX5_seed) (by decide) (md_As hmb) oX5_seed (Nat.le_of_ble_eq_true rfl) ?_
  intro pg e0 sg mg below meth cd X hs
  refine mw_pre (I' := md_I Γ mb W ρ) (fun H1 h1 => by rw [h1]; exact hH) ?_
  refine mw_steps X 1 (pc' := 1) (lv' := [(0, .ref mb), (1, .int x)]) (st' := [.int x]) rfl ?_
  refine mw_if_ge X 7 rfl rfl (fun c1 => ?_) (fun c1 => ?_)
  · refine mw_steps X 1 (pc' := 8) (lv' := [(0, .ref mb), (1, .int x)]) (st' := [.ref mb]) rfl ?_
    refine mw_get X kf_X5_135.fl kc_5 rfl (v := .int ρ.2.1) (fun H h => ⟨_, h.1, rfl⟩) ?_
    refine mw_steps X 3 (pc' := 14) (lv' := [(2, .int ρ.2.1), (0, .ref mb), (1, .int x)]) (st' := [.int x, .ref mb]) rfl ?_
    refine mw_put X kf_X5_135.fl kc_5 ⟨_, _, _, .int, rfl, rfl, by decide, rfl, rfl⟩ rfl (I1 := md_I Γ mb W (ρ.1, x, ρ.2.2.1, ρ.2.2.2.1, ρ.2.2.2.2.1, ρ.2.2.2.2.2.1, ρ.2.2.2.2.2.2)) (fun H h => ⟨md_A0, _, h.1, Nat.le_of_ble_eq_true rfl, fun H1 o c => h.stf o c⟩) ?_
    refine mw_steps X 1 (pc' := 18) (lv' := [(2, .int ρ.2.1), (0, .ref mb), (1, .int x)]) (st' := [.int ρ.2.1]) rfl ?_
    have hop : op_seed ρ x = (ρ.2.1, (ρ.1, x, ρ.2.2.1, ρ.2.2.2.1, ρ.2.2.2.2.1, ρ.2.2.2.2.2.1, ρ.2.2.2.2.2.2)) := by unfold op_seed; rw [if_pos c1]
    exact mw_iret X rfl rfl (fun H h => ⟨by rw [hop], by rw [hop]; exact h⟩)
  · refine mw_ldc X kk_X5_138 rfl ?_
    have hop : op_seed ρ x = ((-1000000002), ρ) := by unfold op_seed; rw [if_neg c1]
    exact mw_iret X rfl rfl (fun H h => ⟨by rw [hop], by rw [hop]; exact h⟩)
set_option maxHeartbeats 4000000 in
set_option maxRecDepth 20000 in
theorem cm_copy {l : Launch} {Γ : mw_C} {mb : Nat} (hmb : Γ.2.2.2 ≤ mb) {W : Nat → Int32} {ρ : md_R} {H : Heap} {a b : Nat} (hH : md_I Γ mb W ρ H) (hab : a + 3137 ≤ b ∨ b + 3137 ≤ a) (ha : a ≤ 6274) (hb : b ≤ 6274) : mw_Cr l Γ mX5_copy 1 0 0 (md_A mb) [.ref mb, .int (nI a), .int (nI b)] H none (md_I Γ mb (va_cpy W W a b 3137) ρ) := by
  refine mw_ofG (P := pX5_copy) (by decide) (md_As hmb) oX5_copy (Nat.le_of_ble_eq_true rfl) ?_
  intro pg e0 sg mg below meth cd X hs
  refine mw_pre (I' := md_I Γ mb W ρ) (fun H1 h1 => by rw [h1]; exact hH) ?_
  refine mw_steps X 2 (pc' := 2) (lv' := [(3, .int (nI 0)), (0, .ref mb), (1, .int (nI a)), (2, .int (nI b))]) (st' := []) rfl ?_
  refine mw_pre (I' := md_I Γ mb (va_cpy W W a b 0) ρ) (fun H h => by rw [ml_cpy0]; exact h) ?_
  refine mw_wf (fun t => 3137 - t) (fun t => t ≤ 3137) (fun t => md_I Γ mb (va_cpy W W a b t) ρ) (fun t => [(3, .int (nI t)), (0, .ref mb), (1, .int (nI a)), (2, .int (nI b))]) (fun t ht ih => ?_) 0 (Nat.zero_le _)
  refine mw_steps X 2 (pc' := 6) (lv' := [(3, .int (nI t)), (0, .ref mb), (1, .int (nI a)), (2, .int (nI b))]) (st' := [.int (nI 3137), .int (nI t)]) rfl ?_
  refine mw_icmp_ge X 31 rfl rfl (fun c6 => ?_) (fun c6 => ?_)
  · have htn : t = 3137 := by rw [nI_leI (by omega) (by omega)] at c6; omega
    exact mw_vret X rfl rfl (fun H h => ⟨rfl, by rw [← htn]; exact h⟩)
  · have htn : t < 3137 := by rw [nI_leI (by omega) (by omega)] at c6; omega
    refine mw_steps X 1 (pc' := 10) (lv' := [(3, .int (nI t)), (0, .ref mb), (1, .int (nI a)), (2, .int (nI b))]) (st' := [.ref mb]) rfl ?_
    refine mw_get X kf_X5_7.fl kc_5 rfl (v := .ref (mb + 1)) (fun H h => ⟨_, h.1, rfl⟩) ?_
    refine mw_steps X 4 (pc' := 17) (lv' := [(3, .int (nI t)), (0, .ref mb), (1, .int (nI a)), (2, .int (nI b))]) (st' := [.ref mb, .int ((nI b) + (nI t)), .ref (mb + 1)]) rfl ?_
    refine mw_get X kf_X5_7.fl kc_5 rfl (v := .ref (mb + 1)) (fun H h => ⟨_, h.1, rfl⟩) ?_
    refine mw_steps X 3 (pc' := 23) (lv' := [(3, .int (nI t)), (0, .ref mb), (1, .int (nI a)), (2, .int (nI b))]) (st' := [.int ((nI a) + (nI t)), .ref (mb + 1), .int ((nI b) + (nI t)), .ref (mb + 1)]) rfl ?_
    refine mw_iald X (v := (va_cpy W W a b t) (a + t)) (a + t) (by simp only [nI_add, pk_mul]) rfl (fun H h => ⟨_, _, h.2.1, by omega, by decide, rfl⟩) ?_
    refine mw_iast X (I1 := md_I Γ mb (upd (va_cpy W W a b t) (b + t) ((va_cpy W W a b t) (a + t))) ρ) (b + t) (by simp only [nI_add, pk_mul]) rfl (fun H h => ⟨md_A1, _, _, h.2.1, by omega, by decide, fun H1 o c => h.stw o c⟩) ?_
    refine mw_steps X 2 (pc' := 2) (lv' := [(3, .int ((nI t) + (nI 1))), (0, .ref mb), (1, .int (nI a)), (2, .int (nI b))]) (st' := []) rfl ?_
    refine mw_lveq (lv' := [(3, .int (nI (t + 1))), (0, .ref mb), (1, .int (nI a)), (2, .int (nI b))]) (by simp only [nI_add]) ?_
    refine mw_pre (fun H h => ?_) (ih (t + 1) (by omega) (by omega))
    rw [← ml_cpyT W (by omega)]; exact h
set_option maxHeartbeats 4000000 in
set_option maxRecDepth 20000 in
theorem cm_keepA {l : Launch} {Γ : mw_C} {mb : Nat} (hmb : Γ.2.2.2 ≤ mb) {W : Nat → Int32} {ρ : md_R} {H : Heap} {x : Int32} (hH : md_I Γ mb W ρ H)  : mw_Cr l Γ mX5_keep 2 0 0 (md_A mb) [.ref mb, .int x] H (some (.int (op_keep W ρ x).1)) (md_I Γ mb (op_keep W ρ x).2.1 (op_keep W ρ x).2.2) := by
  refine mw_ofG (P := pX5_keep) (by decide) (md_As hmb) oX5_keep (Nat.le_of_ble_eq_true rfl) ?_
  intro pg e0 sg mg below meth cd X hs
  refine mw_pre (I' := md_I Γ mb W ρ) (fun H1 h1 => by rw [h1]; exact hH) ?_
  refine mw_steps X 4 (pc' := 4) (lv' := [(0, .ref mb), (1, .int x)]) (st' := [.long 1, .long 0, .long x.toInt64]) rfl ?_
  refine mw_cS3r X kd_X5_in ks_X5_in kl_X5_68 rfl (Nat.le_of_ble_eq_true rfl) ⟨Nat.le_of_ble_eq_true rfl, Nat.le_of_ble_eq_true rfl⟩ ⟨Nat.le_of_ble_eq_true rfl, Nat.le_of_ble_eq_true rfl⟩ (fun _ h => h) (fun H h => cm_in hmb h) ?_
  rw [show mo_in x.toInt64 0 1 = mo_bl x 2 from mo_in_bl (x := x) (g := 2) (by omega) (by omega)]
  refine mw_if_ne X 13 rfl rfl (fun c7 => ?_) (fun c7 => ?_)
  · obtain ⟨i, hi, rfl⟩ := mo_bl_t (mo_b_nz c7) (by omega)
    refine mw_steps X 7 (pc' := 22) (lv' := [(0, .ref mb), (1, .int (nI i))]) (st' := [.int ((nI 3137) * ((nI i) + (nI 1))), .int (nI 0), .ref mb]) rfl ?_
    refine mw_steq (st' := [.int (nI (3137 * (i + 1))), .int (nI 0), .ref mb]) (by simp only [nI_add, pk_mul]) ?_
    refine mw_cV2v X kd_X5_copy kv_X5_copy kl_X5_233 (ci := 5) rfl rfl (Nat.le_of_ble_eq_true rfl) ⟨Nat.le_of_ble_eq_true rfl, Nat.le_of_ble_eq_true rfl⟩ ⟨Nat.le_of_ble_eq_true rfl, Nat.le_of_ble_eq_true rfl⟩ (fun _ h => h) (fun H h => ⟨⟨_, h.1⟩, cm_copy hmb h (a := 0) (b := 3137 * (i + 1)) (by omega) (by omega) (by omega)⟩) ?_
    refine mw_steps X 1 (pc' := 26) (lv' := [(0, .ref mb), (1, .int (nI i))]) (st' := [.ref mb]) rfl ?_
    refine mw_get X kf_X5_13.fl kc_5 rfl (v := .ref (mb + 2)) (fun H h => ⟨_, h.1, rfl⟩) ?_
    refine mw_steps X 2 (pc' := 31) (lv' := [(0, .ref mb), (1, .int (nI i))]) (st' := [.ref mb, .int (nI i), .ref (mb + 2)]) rfl ?_
    refine mw_get X kf_X5_135.fl kc_5 rfl (v := .int ρ.2.1) (fun H h => ⟨_, h.1, rfl⟩) ?_
    refine mw_iast X (I1 := md_I Γ mb (va_cpy W W 0 (3137 * (i + 1)) 3137) (ρ.1, ρ.2.1, upd ρ.2.2.1 (i) ρ.2.1, ρ.2.2.2.1, ρ.2.2.2.2.1, ρ.2.2.2.2.2.1, ρ.2.2.2.2.2.2)) (i) rfl rfl (fun H h => ⟨md_A2, _, _, h.2.2.1, by omega, by decide, fun H1 o c => h.st2 o c⟩) ?_
    refine mw_steps X 2 (pc' := 37) (lv' := [(0, .ref mb), (1, .int (nI i))]) (st' := [.ref mb, .ref mb]) rfl ?_
    refine mw_get X kf_X5_236.fl kc_5 rfl (v := .int ρ.1) (fun H h => ⟨_, h.1, rfl⟩) ?_
    refine mw_steps X 4 (pc' := 44) (lv' := [(0, .ref mb), (1, .int (nI i))]) (st' := [.int (ρ.1 ||| ((nI 1) <<< ((nI i) &&& 31))), .ref mb]) rfl ?_
    refine mw_put X kf_X5_236.fl kc_5 ⟨_, _, _, .int, rfl, rfl, by decide, rfl, rfl⟩ rfl (I1 := md_I Γ mb (va_cpy W W 0 (3137 * (i + 1)) 3137) (ρ.1 ||| ((nI 1) <<< ((nI i) &&& 31)), ρ.2.1, upd ρ.2.2.1 (i) ρ.2.1, ρ.2.2.2.1, ρ.2.2.2.2.1, ρ.2.2.2.2.2.1, ρ.2.2.2.2.2.2)) (fun H h => ⟨md_A0, _, h.1, Nat.le_of_ble_eq_true rfl, fun H1 o c => h.stf o c⟩) ?_
    refine mw_steps X 1 (pc' := 48) (lv' := [(0, .ref mb), (1, .int (nI i))]) (st' := [.int (nI 1)]) rfl ?_
    have hop : op_keep W ρ (nI i) = (nI 1, va_cpy W W 0 (3137 * (i + 1)) 3137, (ρ.1 ||| ((nI 1) <<< ((nI i) &&& 31)), ρ.2.1, upd ρ.2.2.1 (i) ρ.2.1, ρ.2.2.2.1, ρ.2.2.2.2.1, ρ.2.2.2.2.2.1, ρ.2.2.2.2.2.2)) := by unfold op_keep; rw [if_pos (mo_bl_n hi (by omega)), ml_n (by omega)]
    exact mw_iret X rfl rfl (fun H h => ⟨by rw [hop], by rw [hop]; exact h⟩)
  · refine mw_ldc X kk_X5_147 rfl ?_
    have hop : op_keep W ρ x = ((-1000000001), W, ρ) := by unfold op_keep; rw [if_neg (by rw [mo_b_z c7]; decide)]
    exact mw_iret X rfl rfl (fun H h => ⟨by rw [hop], by rw [hop]; exact h⟩)
set_option maxHeartbeats 4000000 in
set_option maxRecDepth 20000 in
theorem cm_goBack {l : Launch} {Γ : mw_C} {mb : Nat} (hmb : Γ.2.2.2 ≤ mb) {W : Nat → Int32} {ρ : md_R} {H : Heap} {x : Int32} (hH : md_I Γ mb W ρ H)  : mw_Cr l Γ mX5_goBack 2 0 0 (md_A mb) [.ref mb, .int x] H (some (.int (op_goBack W ρ x).1)) (md_I Γ mb (op_goBack W ρ x).2.1 (op_goBack W ρ x).2.2) := by
  refine mw_ofG (P := pX5_goBack) (by decide) (md_As hmb) oX5_goBack (Nat.le_of_ble_eq_true rfl) ?_
  intro pg e0 sg mg below meth cd X hs
  refine mw_pre (I' := md_I Γ mb W ρ) (fun H1 h1 => by rw [h1]; exact hH) ?_
  refine mw_steps X 4 (pc' := 4) (lv' := [(0, .ref mb), (1, .int x)]) (st' := [.long 1, .long 0, .long x.toInt64]) rfl ?_
  refine mw_cS3r X kd_X5_in ks_X5_in kl_X5_68 rfl (Nat.le_of_ble_eq_true rfl) ⟨Nat.le_of_ble_eq_true rfl, Nat.le_of_ble_eq_true rfl⟩ ⟨Nat.le_of_ble_eq_true rfl, Nat.le_of_ble_eq_true rfl⟩ (fun _ h => h) (fun H h => cm_in hmb h) ?_
  rw [show mo_in x.toInt64 0 1 = mo_bl x 2 from mo_in_bl (x := x) (g := 2) (by omega) (by omega)]
  refine mw_if_ne X 13 rfl rfl (fun c7 => ?_) (fun c7 => ?_)
  · obtain ⟨i, hi, rfl⟩ := mo_bl_t (mo_b_nz c7) (by omega)
    refine mw_steps X 1 (pc' := 14) (lv' := [(0, .ref mb), (1, .int (nI i))]) (st' := [.ref mb]) rfl ?_
    refine mw_get X kf_X5_236.fl kc_5 rfl (v := .int ρ.1) (fun H h => ⟨_, h.1, rfl⟩) ?_
    refine mw_steps X 4 (pc' := 21) (lv' := [(0, .ref mb), (1, .int (nI i))]) (st' := [.int ((ρ.1 >>> ((nI i) &&& 31)) &&& (nI 1))]) rfl ?_
    refine mw_if_ne X 27 rfl rfl (fun c21 => ?_) (fun c21 => ?_)
    · refine mw_steps X 7 (pc' := 36) (lv' := [(0, .ref mb), (1, .int (nI i))]) (st' := [.int (nI 0), .int ((nI 3137) * ((nI i) + (nI 1))), .ref mb]) rfl ?_
      refine mw_steq (st' := [.int (nI 0), .int (nI (3137 * (i + 1))), .ref mb]) (by simp only [nI_add, pk_mul]) ?_
      refine mw_cV2v X kd_X5_copy kv_X5_copy kl_X5_233 (ci := 5) rfl rfl (Nat.le_of_ble_eq_true rfl) ⟨Nat.le_of_ble_eq_true rfl, Nat.le_of_ble_eq_true rfl⟩ ⟨Nat.le_of_ble_eq_true rfl, Nat.le_of_ble_eq_true rfl⟩ (fun _ h => h) (fun H h => ⟨⟨_, h.1⟩, cm_copy hmb h (a := 3137 * (i + 1)) (b := 0) (by omega) (by omega) (by omega)⟩) ?_
      refine mw_steps X 2 (pc' := 41) (lv' := [(0, .ref mb), (1, .int (nI i))]) (st' := [.ref mb, .ref mb]) rfl ?_
      refine mw_get X kf_X5_13.fl kc_5 rfl (v := .ref (mb + 2)) (fun H h => ⟨_, h.1, rfl⟩) ?_
      refine mw_steps X 1 (pc' := 45) (lv' := [(0, .ref mb), (1, .int (nI i))]) (st' := [.int (nI i), .ref (mb + 2), .ref mb]) rfl ?_
      refine mw_iald X (v := ρ.2.2.1 (i)) (i) rfl rfl (fun H h => ⟨_, _, h.2.2.1, by omega, by decide, rfl⟩) ?_
      refine mw_put X kf_X5_135.fl kc_5 ⟨_, _, _, .int, rfl, rfl, by decide, rfl, rfl⟩ rfl (I1 := md_I Γ mb (va_cpy W W (3137 * (i + 1)) 0 3137) (ρ.1, ρ.2.2.1 (i), ρ.2.2.1, ρ.2.2.2.1, ρ.2.2.2.2.1, ρ.2.2.2.2.2.1, ρ.2.2.2.2.2.2)) (fun H h => ⟨md_A0, _, h.1, Nat.le_of_ble_eq_true rfl, fun H1 o c => h.stf o c⟩) ?_
      refine mw_steps X 1 (pc' := 50) (lv' := [(0, .ref mb), (1, .int (nI i))]) (st' := [.int (nI 1)]) rfl ?_
      have hop : op_goBack W ρ (nI i) = (nI 1, va_cpy W W (3137 * (i + 1)) 0 3137, (ρ.1, ρ.2.2.1 (i), ρ.2.2.1, ρ.2.2.2.1, ρ.2.2.2.2.1, ρ.2.2.2.2.2.1, ρ.2.2.2.2.2.2)) := by unfold op_goBack; rw [if_pos (mo_bl_n hi (by omega)), ml_n (by omega), if_neg c21]
      exact mw_iret X rfl rfl (fun H h => ⟨by rw [hop], by rw [hop]; exact h⟩)
    · refine mw_ldc X kk_X5_168 rfl ?_
      have hop : op_goBack W ρ (nI i) = ((-1000000003), W, ρ) := by unfold op_goBack; rw [if_pos (mo_bl_n hi (by omega)), if_pos c21]
      exact mw_iret X rfl rfl (fun H h => ⟨by rw [hop], by rw [hop]; exact h⟩)
  · refine mw_ldc X kk_X5_147 rfl ?_
    have hop : op_goBack W ρ x = ((-1000000001), W, ρ) := by unfold op_goBack; rw [if_neg (by rw [mo_b_z c7]; decide)]
    exact mw_iret X rfl rfl (fun H h => ⟨by rw [hop], by rw [hop]; exact h⟩)
