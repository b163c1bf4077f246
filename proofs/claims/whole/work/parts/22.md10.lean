set_option maxHeartbeats 4000000 in
set_option maxRecDepth 20000 in
theorem cm_forge {l : Launch} {Γ : mw_C} {mb : Nat} (hmb : Γ.2.2.2 ≤ mb) {W : Nat → Int32} {ρ : md_R} {H : Heap} {cr : Nat} {a b c d e : Int32} (hH : md_I Γ mb W ρ H) (hv : iv cr W) : mw_Cr l Γ mX5_forge 3 0 0 (md_A mb) [.ref mb, .int a, .int b, .int c, .int d, .int e] H (some (.int (op_forge W a b c d e).1)) (md_I Γ mb (op_forge W a b c d e).2 ρ) := by
  obtain ⟨n, hn2, hn⟩ := hv.1.1
  refine mw_ofG (P := pX5_forge) (by decide) (md_As hmb) oX5_forge (Nat.le_of_ble_eq_true rfl) ?_
  intro pg e0 sg mg below meth cd X hs
  refine mw_pre (I' := md_I Γ mb W ρ) (fun H1 h1 => by rw [h1]; exact hH) ?_
  refine mw_steps X 1 (pc' := 1) (lv' := [(0, .ref mb), (1, .int a), (2, .int b), (3, .int c), (4, .int d), (5, .int e)]) (st' := [.int a]) rfl ?_
  refine mw_cS1r X kd_X5_isPlace ks_X5_isPlace kl_X5_151 rfl (Nat.le_of_ble_eq_true rfl) ⟨Nat.le_of_ble_eq_true rfl, Nat.le_of_ble_eq_true rfl⟩ ⟨Nat.le_of_ble_eq_true rfl, Nat.le_of_ble_eq_true rfl⟩ (fun _ h => h) (fun H h => cm_isPlace hmb h) ?_
  refine mw_if_ne X 10 rfl rfl (fun c4 => ?_) (fun c4 => ?_)
  · refine mw_steps X 2 (pc' := 12) (lv' := [(0, .ref mb), (1, .int a), (2, .int b), (3, .int c), (4, .int d), (5, .int e)]) (st' := [.long b.toInt64]) rfl ?_
    refine mw_ldc2 X kk_X5_183 rfl ?_
    refine mw_ldc2 X kk_X5_185 rfl ?_
    refine mw_cS3r X kd_X5_in ks_X5_in kl_X5_68 rfl (Nat.le_of_ble_eq_true rfl) ⟨Nat.le_of_ble_eq_true rfl, Nat.le_of_ble_eq_true rfl⟩ ⟨Nat.le_of_ble_eq_true rfl, Nat.le_of_ble_eq_true rfl⟩ (fun _ h => h) (fun H h => cm_in hmb h) ?_
    refine mw_if_eq X 66 rfl rfl (fun c21 => ?_) (fun c21 => ?_)
    · refine mw_steps X 3 (pc' := 71) (lv' := [(6, .int (nI 0)), (0, .ref mb), (1, .int a), (2, .int b), (3, .int c), (4, .int d), (5, .int e)]) (st' := [.int (nI 0)]) rfl ?_
      refine mw_if_ne X 77 rfl rfl (fun c71 => absurd (by decide) c71) (fun c71 => ?_)
      refine mw_ldc X kk_X5_138 rfl ?_
      have hop : op_forge W a b c d e = ((-1000000002), W) := by unfold op_forge; rw [if_pos (mo_b_nz c4), if_neg (by rw [ml_good_f (by first | exact Or.inl (mo_b_z c21) | exact Or.inr (Or.inl (mo_b_z c33)) | exact Or.inr (Or.inr (Or.inl (mo_b_z c46))) | exact Or.inr (Or.inr (Or.inr (mo_b_z c59))))]; decide)]
      exact mw_iret X rfl rfl (fun H h => ⟨by rw [hop], by rw [hop]; exact h⟩)
    · refine mw_steps X 3 (pc' := 27) (lv' := [(0, .ref mb), (1, .int a), (2, .int b), (3, .int c), (4, .int d), (5, .int e)]) (st' := [.long 0, .long c.toInt64]) rfl ?_
      refine mw_ldc2 X kk_X5_187 rfl ?_
      refine mw_cS3r X kd_X5_in ks_X5_in kl_X5_68 rfl (Nat.le_of_ble_eq_true rfl) ⟨Nat.le_of_ble_eq_true rfl, Nat.le_of_ble_eq_true rfl⟩ ⟨Nat.le_of_ble_eq_true rfl, Nat.le_of_ble_eq_true rfl⟩ (fun _ h => h) (fun H h => cm_in hmb h) ?_
      refine mw_if_eq X 66 rfl rfl (fun c33 => ?_) (fun c33 => ?_)
      · refine mw_steps X 3 (pc' := 71) (lv' := [(6, .int (nI 0)), (0, .ref mb), (1, .int a), (2, .int b), (3, .int c), (4, .int d), (5, .int e)]) (st' := [.int (nI 0)]) rfl ?_
        refine mw_if_ne X 77 rfl rfl (fun c71 => absurd (by decide) c71) (fun c71 => ?_)
        refine mw_ldc X kk_X5_138 rfl ?_
        have hop : op_forge W a b c d e = ((-1000000002), W) := by unfold op_forge; rw [if_pos (mo_b_nz c4), if_neg (by rw [ml_good_f (by first | exact Or.inl (mo_b_z c21) | exact Or.inr (Or.inl (mo_b_z c33)) | exact Or.inr (Or.inr (Or.inl (mo_b_z c46))) | exact Or.inr (Or.inr (Or.inr (mo_b_z c59))))]; decide)]
        exact mw_iret X rfl rfl (fun H h => ⟨by rw [hop], by rw [hop]; exact h⟩)
      · refine mw_steps X 3 (pc' := 40) (lv' := [(0, .ref mb), (1, .int a), (2, .int b), (3, .int c), (4, .int d), (5, .int e)]) (st' := [.long 0, .long d.toInt64]) rfl ?_
        refine mw_ldc2 X kk_X5_157 rfl ?_
        refine mw_cS3r X kd_X5_in ks_X5_in kl_X5_68 rfl (Nat.le_of_ble_eq_true rfl) ⟨Nat.le_of_ble_eq_true rfl, Nat.le_of_ble_eq_true rfl⟩ ⟨Nat.le_of_ble_eq_true rfl, Nat.le_of_ble_eq_true rfl⟩ (fun _ h => h) (fun H h => cm_in hmb h) ?_
        refine mw_if_eq X 66 rfl rfl (fun c46 => ?_) (fun c46 => ?_)
        · refine mw_steps X 3 (pc' := 71) (lv' := [(6, .int (nI 0)), (0, .ref mb), (1, .int a), (2, .int b), (3, .int c), (4, .int d), (5, .int e)]) (st' := [.int (nI 0)]) rfl ?_
          refine mw_if_ne X 77 rfl rfl (fun c71 => absurd (by decide) c71) (fun c71 => ?_)
          refine mw_ldc X kk_X5_138 rfl ?_
          have hop : op_forge W a b c d e = ((-1000000002), W) := by unfold op_forge; rw [if_pos (mo_b_nz c4), if_neg (by rw [ml_good_f (by first | exact Or.inl (mo_b_z c21) | exact Or.inr (Or.inl (mo_b_z c33)) | exact Or.inr (Or.inr (Or.inl (mo_b_z c46))) | exact Or.inr (Or.inr (Or.inr (mo_b_z c59))))]; decide)]
          exact mw_iret X rfl rfl (fun H h => ⟨by rw [hop], by rw [hop]; exact h⟩)
        · refine mw_steps X 3 (pc' := 53) (lv' := [(0, .ref mb), (1, .int a), (2, .int b), (3, .int c), (4, .int d), (5, .int e)]) (st' := [.long 0, .long e.toInt64]) rfl ?_
          refine mw_ldc2 X kk_X5_185 rfl ?_
          refine mw_cS3r X kd_X5_in ks_X5_in kl_X5_68 rfl (Nat.le_of_ble_eq_true rfl) ⟨Nat.le_of_ble_eq_true rfl, Nat.le_of_ble_eq_true rfl⟩ ⟨Nat.le_of_ble_eq_true rfl, Nat.le_of_ble_eq_true rfl⟩ (fun _ h => h) (fun H h => cm_in hmb h) ?_
          refine mw_if_eq X 66 rfl rfl (fun c59 => ?_) (fun c59 => ?_)
          · refine mw_steps X 3 (pc' := 71) (lv' := [(6, .int (nI 0)), (0, .ref mb), (1, .int a), (2, .int b), (3, .int c), (4, .int d), (5, .int e)]) (st' := [.int (nI 0)]) rfl ?_
            refine mw_if_ne X 77 rfl rfl (fun c71 => absurd (by decide) c71) (fun c71 => ?_)
            refine mw_ldc X kk_X5_138 rfl ?_
            have hop : op_forge W a b c d e = ((-1000000002), W) := by unfold op_forge; rw [if_pos (mo_b_nz c4), if_neg (by rw [ml_good_f (by first | exact Or.inl (mo_b_z c21) | exact Or.inr (Or.inl (mo_b_z c33)) | exact Or.inr (Or.inr (Or.inl (mo_b_z c46))) | exact Or.inr (Or.inr (Or.inr (mo_b_z c59))))]; decide)]
            exact mw_iret X rfl rfl (fun H h => ⟨by rw [hop], by rw [hop]; exact h⟩)
          · refine mw_steps X 4 (pc' := 71) (lv' := [(6, .int (nI 1)), (0, .ref mb), (1, .int a), (2, .int b), (3, .int c), (4, .int d), (5, .int e)]) (st' := [.int (nI 1)]) rfl ?_
            refine mw_if_ne X 77 rfl rfl (fun c71 => ?_) (fun c71 => absurd c71 (by decide))
            refine mw_steps X 1 (pc' := 78) (lv' := [(6, .int (nI 1)), (0, .ref mb), (1, .int a), (2, .int b), (3, .int c), (4, .int d), (5, .int e)]) (st' := [.ref mb]) rfl ?_
            refine mw_get X kf_X5_7.fl kc_5 rfl (v := .ref (mb + 1)) (fun H h => ⟨_, h.1, rfl⟩) ?_
            refine mw_steps X 1 (pc' := 83) (lv' := [(6, .int (nI 1)), (0, .ref mb), (1, .int a), (2, .int b), (3, .int c), (4, .int d), (5, .int e)]) (st' := [.int (nI 11), .ref (mb + 1)]) rfl ?_
            refine mw_iald X (v := nI n) (11) rfl rfl (fun H h => ⟨_, _, h.2.1, by omega, by decide, hn⟩) ?_
            refine mw_steps X 1 (pc' := 86) (lv' := [(6, .int (nI 1)), (0, .ref mb), (1, .int a), (2, .int b), (3, .int c), (4, .int d), (5, .int e)]) (st' := [.int (nI 24), .int (nI n)]) rfl ?_
            refine mw_icmp_ne X 92 rfl rfl (fun c86 => ?_) (fun c86 => ?_)
            · have hn24 : n < 24 := by have : ¬ n = 24 := fun q => c86 (by rw [q]); omega
              refine mw_steps X 3 (pc' := 98) (lv' := [(6, .int (nI 1)), (0, .ref mb), (1, .int a), (2, .int b), (3, .int c), (4, .int d), (5, .int e)]) (st' := [.ref mb, .int (nI 6), .int (nI 327)]) rfl ?_
              refine mw_get X kf_X5_7.fl kc_5 rfl (v := .ref (mb + 1)) (fun H h => ⟨_, h.1, rfl⟩) ?_
              refine mw_steps X 1 (pc' := 103) (lv' := [(6, .int (nI 1)), (0, .ref mb), (1, .int a), (2, .int b), (3, .int c), (4, .int d), (5, .int e)]) (st' := [.int (nI 11), .ref (mb + 1), .int (nI 6), .int (nI 327)]) rfl ?_
              refine mw_iald X (v := nI n) (11) rfl rfl (fun H h => ⟨_, _, h.2.1, by omega, by decide, hn⟩) ?_
              refine mw_steps X 4 (pc' := 109) (lv' := [(7, .int ((nI 327) + ((nI 6) * (nI n)))), (6, .int (nI 1)), (0, .ref mb), (1, .int a), (2, .int b), (3, .int c), (4, .int d), (5, .int e)]) (st' := [.ref mb]) rfl ?_
              refine mw_get X kf_X5_7.fl kc_5 rfl (v := .ref (mb + 1)) (fun H h => ⟨_, h.1, rfl⟩) ?_
              refine mw_steps X 2 (pc' := 115) (lv' := [(7, .int ((nI 327) + ((nI 6) * (nI n)))), (6, .int (nI 1)), (0, .ref mb), (1, .int a), (2, .int b), (3, .int c), (4, .int d), (5, .int e)]) (st' := [.int (nI 0), .int ((nI 327) + ((nI 6) * (nI n))), .ref (mb + 1)]) rfl ?_
              refine mw_iast X (I1 := md_I Γ mb (upd W (327 + 6 * n) (nI 0)) ρ) (327 + 6 * n) (by simp only [nI_add, pk_mul]) rfl (fun H h => ⟨md_A1, _, _, h.2.1, by omega, by decide, fun H1 o c => h.stw o c⟩) ?_
              refine mw_steps X 1 (pc' := 117) (lv' := [(7, .int ((nI 327) + ((nI 6) * (nI n)))), (6, .int (nI 1)), (0, .ref mb), (1, .int a), (2, .int b), (3, .int c), (4, .int d), (5, .int e)]) (st' := [.ref mb]) rfl ?_
              refine mw_get X kf_X5_7.fl kc_5 rfl (v := .ref (mb + 1)) (fun H h => ⟨_, h.1, rfl⟩) ?_
              refine mw_steps X 4 (pc' := 125) (lv' := [(7, .int ((nI 327) + ((nI 6) * (nI n)))), (6, .int (nI 1)), (0, .ref mb), (1, .int a), (2, .int b), (3, .int c), (4, .int d), (5, .int e)]) (st' := [.int a, .int (((nI 327) + ((nI 6) * (nI n))) + (nI 1)), .ref (mb + 1)]) rfl ?_
              refine mw_iast X (I1 := md_I Γ mb (upd (upd W (327 + 6 * n) (nI 0)) (327 + 6 * n + 1) a) ρ) (327 + 6 * n + 1) (by simp only [nI_add, pk_mul]) rfl (fun H h => ⟨md_A1, _, _, h.2.1, by omega, by decide, fun H1 o c => h.stw o c⟩) ?_
              refine mw_steps X 1 (pc' := 127) (lv' := [(7, .int ((nI 327) + ((nI 6) * (nI n)))), (6, .int (nI 1)), (0, .ref mb), (1, .int a), (2, .int b), (3, .int c), (4, .int d), (5, .int e)]) (st' := [.ref mb]) rfl ?_
              refine mw_get X kf_X5_7.fl kc_5 rfl (v := .ref (mb + 1)) (fun H h => ⟨_, h.1, rfl⟩) ?_
              refine mw_steps X 4 (pc' := 135) (lv' := [(7, .int ((nI 327) + ((nI 6) * (nI n)))), (6, .int (nI 1)), (0, .ref mb), (1, .int a), (2, .int b), (3, .int c), (4, .int d), (5, .int e)]) (st' := [.int b, .int (((nI 327) + ((nI 6) * (nI n))) + (nI 2)), .ref (mb + 1)]) rfl ?_
              refine mw_iast X (I1 := md_I Γ mb (upd (upd (upd W (327 + 6 * n) (nI 0)) (327 + 6 * n + 1) a) (327 + 6 * n + 2) b) ρ) (327 + 6 * n + 2) (by simp only [nI_add, pk_mul]) rfl (fun H h => ⟨md_A1, _, _, h.2.1, by omega, by decide, fun H1 o c => h.stw o c⟩) ?_
              refine mw_steps X 1 (pc' := 137) (lv' := [(7, .int ((nI 327) + ((nI 6) * (nI n)))), (6, .int (nI 1)), (0, .ref mb), (1, .int a), (2, .int b), (3, .int c), (4, .int d), (5, .int e)]) (st' := [.ref mb]) rfl ?_
              refine mw_get X kf_X5_7.fl kc_5 rfl (v := .ref (mb + 1)) (fun H h => ⟨_, h.1, rfl⟩) ?_
              refine mw_steps X 4 (pc' := 145) (lv' := [(7, .int ((nI 327) + ((nI 6) * (nI n)))), (6, .int (nI 1)), (0, .ref mb), (1, .int a), (2, .int b), (3, .int c), (4, .int d), (5, .int e)]) (st' := [.int c, .int (((nI 327) + ((nI 6) * (nI n))) + (nI 3)), .ref (mb + 1)]) rfl ?_
              refine mw_iast X (I1 := md_I Γ mb (upd (upd (upd (upd W (327 + 6 * n) (nI 0)) (327 + 6 * n + 1) a) (327 + 6 * n + 2) b) (327 + 6 * n + 3) c) ρ) (327 + 6 * n + 3) (by simp only [nI_add, pk_mul]) rfl (fun H h => ⟨md_A1, _, _, h.2.1, by omega, by decide, fun H1 o c => h.stw o c⟩) ?_
              refine mw_steps X 1 (pc' := 147) (lv' := [(7, .int ((nI 327) + ((nI 6) * (nI n)))), (6, .int (nI 1)), (0, .ref mb), (1, .int a), (2, .int b), (3, .int c), (4, .int d), (5, .int e)]) (st' := [.ref mb]) rfl ?_
              refine mw_get X kf_X5_7.fl kc_5 rfl (v := .ref (mb + 1)) (fun H h => ⟨_, h.1, rfl⟩) ?_
              refine mw_steps X 4 (pc' := 156) (lv' := [(7, .int ((nI 327) + ((nI 6) * (nI n)))), (6, .int (nI 1)), (0, .ref mb), (1, .int a), (2, .int b), (3, .int c), (4, .int d), (5, .int e)]) (st' := [.int d, .int (((nI 327) + ((nI 6) * (nI n))) + (nI 4)), .ref (mb + 1)]) rfl ?_
              refine mw_iast X (I1 := md_I Γ mb (upd (upd (upd (upd (upd W (327 + 6 * n) (nI 0)) (327 + 6 * n + 1) a) (327 + 6 * n + 2) b) (327 + 6 * n + 3) c) (327 + 6 * n + 4) d) ρ) (327 + 6 * n + 4) (by simp only [nI_add, pk_mul]) rfl (fun H h => ⟨md_A1, _, _, h.2.1, by omega, by decide, fun H1 o c => h.stw o c⟩) ?_
              refine mw_steps X 1 (pc' := 158) (lv' := [(7, .int ((nI 327) + ((nI 6) * (nI n)))), (6, .int (nI 1)), (0, .ref mb), (1, .int a), (2, .int b), (3, .int c), (4, .int d), (5, .int e)]) (st' := [.ref mb]) rfl ?_
              refine mw_get X kf_X5_7.fl kc_5 rfl (v := .ref (mb + 1)) (fun H h => ⟨_, h.1, rfl⟩) ?_
              refine mw_steps X 4 (pc' := 167) (lv' := [(7, .int ((nI 327) + ((nI 6) * (nI n)))), (6, .int (nI 1)), (0, .ref mb), (1, .int a), (2, .int b), (3, .int c), (4, .int d), (5, .int e)]) (st' := [.int e, .int (((nI 327) + ((nI 6) * (nI n))) + (nI 5)), .ref (mb + 1)]) rfl ?_
              refine mw_iast X (I1 := md_I Γ mb (upd (upd (upd (upd (upd (upd W (327 + 6 * n) (nI 0)) (327 + 6 * n + 1) a) (327 + 6 * n + 2) b) (327 + 6 * n + 3) c) (327 + 6 * n + 4) d) (327 + 6 * n + 5) e) ρ) (327 + 6 * n + 5) (by simp only [nI_add, pk_mul]) rfl (fun H h => ⟨md_A1, _, _, h.2.1, by omega, by decide, fun H1 o c => h.stw o c⟩) ?_
              refine mw_steps X 1 (pc' := 169) (lv' := [(7, .int ((nI 327) + ((nI 6) * (nI n)))), (6, .int (nI 1)), (0, .ref mb), (1, .int a), (2, .int b), (3, .int c), (4, .int d), (5, .int e)]) (st' := [.ref mb]) rfl ?_
              refine mw_get X kf_X5_7.fl kc_5 rfl (v := .ref (mb + 1)) (fun H h => ⟨_, h.1, rfl⟩) ?_
              refine mw_steps X 2 (pc' := 175) (lv' := [(7, .int ((nI 327) + ((nI 6) * (nI n)))), (6, .int (nI 1)), (0, .ref mb), (1, .int a), (2, .int b), (3, .int c), (4, .int d), (5, .int e)]) (st' := [.int (nI 11), .ref (mb + 1), .int (nI 11), .ref (mb + 1)]) rfl ?_
              refine mw_iald X (v := nI n) (11) rfl rfl (fun H h => ⟨_, _, h.2.1, by omega, by decide, (by simp (disch := omega) only [pk_un]; exact hn)⟩) ?_
              refine mw_steps X 2 (pc' := 178) (lv' := [(7, .int ((nI 327) + ((nI 6) * (nI n)))), (6, .int (nI 1)), (0, .ref mb), (1, .int a), (2, .int b), (3, .int c), (4, .int d), (5, .int e)]) (st' := [.int ((nI n) + (nI 1)), .int (nI 11), .ref (mb + 1)]) rfl ?_
              refine mw_iast X (I1 := md_I Γ mb (upd (upd (upd (upd (upd (upd (upd W (327 + 6 * n) (nI 0)) (327 + 6 * n + 1) a) (327 + 6 * n + 2) b) (327 + 6 * n + 3) c) (327 + 6 * n + 4) d) (327 + 6 * n + 5) e) (11) ((nI n) + (nI 1))) ρ) (11) rfl rfl (fun H h => ⟨md_A1, _, _, h.2.1, by omega, by decide, fun H1 o c => h.stw o c⟩) ?_
              refine mw_steps X 1 (pc' := 180) (lv' := [(7, .int ((nI 327) + ((nI 6) * (nI n)))), (6, .int (nI 1)), (0, .ref mb), (1, .int a), (2, .int b), (3, .int c), (4, .int d), (5, .int e)]) (st' := [.ref mb]) rfl ?_
              refine mw_get X kf_X5_7.fl kc_5 rfl (v := .ref (mb + 1)) (fun H h => ⟨_, h.1, rfl⟩) ?_
              refine mw_steps X 1 (pc' := 185) (lv' := [(7, .int ((nI 327) + ((nI 6) * (nI n)))), (6, .int (nI 1)), (0, .ref mb), (1, .int a), (2, .int b), (3, .int c), (4, .int d), (5, .int e)]) (st' := [.int (nI 11), .ref (mb + 1)]) rfl ?_
              refine mw_iald X (v := (nI n) + (nI 1)) (11) rfl rfl (fun H h => ⟨_, _, h.2.1, by omega, by decide, (by simp (disch := omega) only [pk_us, pk_un])⟩) ?_
              have hop : op_forge W a b c d e = ((nI n) + (nI 1), upd (upd (upd (upd (upd (upd (upd W (327 + 6 * n) (nI 0)) (327 + 6 * n + 1) a) (327 + 6 * n + 2) b) (327 + 6 * n + 3) c) (327 + 6 * n + 4) d) (327 + 6 * n + 5) e) (11) ((nI n) + (nI 1))) := by unfold op_forge mo_forge; rw [if_pos (mo_b_nz c4), if_pos (ml_good_t (mo_b_nz c21) (mo_b_nz c33) (mo_b_nz c46) (mo_b_nz c59)), hn, if_neg c86, mo_put6, ml_n (by omega)]
              exact mw_iret X rfl rfl (fun H h => ⟨by rw [hop], by rw [hop]; exact h⟩)
            · refine mw_ldc X kk_X5_161 rfl ?_
              have hop : op_forge W a b c d e = ((-1000000004), W) := by unfold op_forge; rw [if_pos (mo_b_nz c4), if_pos (ml_good_t (mo_b_nz c21) (mo_b_nz c33) (mo_b_nz c46) (mo_b_nz c59)), hn, if_pos c86]
              exact mw_iret X rfl rfl (fun H h => ⟨by rw [hop], by rw [hop]; exact h⟩)
  · refine mw_ldc X kk_X5_147 rfl ?_
    have hop : op_forge W a b c d e = ((-1000000001), W) := by unfold op_forge; rw [if_neg (by rw [mo_b_z c4]; decide)]
    exact mw_iret X rfl rfl (fun H h => ⟨by rw [hop], by rw [hop]; exact h⟩)
set_option maxHeartbeats 4000000 in
set_option maxRecDepth 20000 in
theorem cm_toldMore10 {l : Launch} {Γ : mw_C} {mb : Nat} (hmb : Γ.2.2.2 ≤ mb) {W : Nat → Int32} {ρ : md_R} {H : Heap} {c : Nat} (hH : md_I Γ mb W ρ H) (hv : iv c W) (hk : iv_k ρ) : mw_Cr l Γ mX5_toldMore 3 0 0 (md_A mb) [.ref mb, .int (nI 10)] H (some (.int (an_told W ρ 10))) (md_I Γ mb W ρ) := by
  refine mw_ofG (P := pX5_toldMore) (by decide) (md_As hmb) oX5_toldMore (Nat.le_of_ble_eq_true rfl) ?_
  intro pg e0 sg mg below meth cd X hs
  refine mw_pre (I' := md_I Γ mb W ρ) (fun H1 h1 => by rw [h1]; exact hH) ?_
  refine mw_steps X 1 (pc' := 1) (lv' := [(0, .ref mb), (1, .int (nI 10))]) (st' := [.int (nI 10)]) rfl ?_
  refine mw_tsInL X 10 10 rfl (by decide) (by decide) 56 rfl (by decide) rfl rfl ?_
  refine mw_steps X 3 (pc' := 60) (lv' := [(0, .ref mb), (1, .int (nI 10))]) (st' := [.int (nI 1), .int (nI 87), .ref mb]) rfl ?_
  refine mw_cV2r X kd_X5_manyOf kv_X5_manyOf kl_X5_123 (ci := 5) rfl rfl (Nat.le_of_ble_eq_true rfl) ⟨Nat.le_of_ble_eq_true rfl, Nat.le_of_ble_eq_true rfl⟩ ⟨Nat.le_of_ble_eq_true rfl, Nat.le_of_ble_eq_true rfl⟩ (fun _ h => h) (fun H h => ⟨⟨_, h.1⟩, cm_manyOf hmb h (f := 87) (v := nI 1) (by omega)⟩) ?_
  exact mw_iret X rfl rfl (fun H h => ⟨rfl, h⟩)
set_option maxHeartbeats 4000000 in
set_option maxRecDepth 20000 in
theorem cm_toldMore11 {l : Launch} {Γ : mw_C} {mb : Nat} (hmb : Γ.2.2.2 ≤ mb) {W : Nat → Int32} {ρ : md_R} {H : Heap} {c : Nat} (hH : md_I Γ mb W ρ H) (hv : iv c W) (hk : iv_k ρ) : mw_Cr l Γ mX5_toldMore 3 0 0 (md_A mb) [.ref mb, .int (nI 11)] H (some (.int (an_told W ρ 11))) (md_I Γ mb W ρ) := by
  refine mw_ofG (P := pX5_toldMore) (by decide) (md_As hmb) oX5_toldMore (Nat.le_of_ble_eq_true rfl) ?_
  intro pg e0 sg mg below meth cd X hs
  refine mw_pre (I' := md_I Γ mb W ρ) (fun H1 h1 => by rw [h1]; exact hH) ?_
  refine mw_steps X 1 (pc' := 1) (lv' := [(0, .ref mb), (1, .int (nI 11))]) (st' := [.int (nI 11)]) rfl ?_
  refine mw_tsInL X 10 11 rfl (by decide) (by decide) 64 rfl (by decide) rfl rfl ?_
  refine mw_steps X 1 (pc' := 65) (lv' := [(0, .ref mb), (1, .int (nI 11))]) (st' := [.ref mb]) rfl ?_
  refine mw_get X kf_X5_7.fl kc_5 rfl (v := .ref (mb + 1)) (fun H h => ⟨_, h.1, rfl⟩) ?_
  refine mw_steps X 1 (pc' := 70) (lv' := [(0, .ref mb), (1, .int (nI 11))]) (st' := [.int (nI 6), .ref (mb + 1)]) rfl ?_
  refine mw_iald X (v := W (6)) (6) rfl rfl (fun H h => ⟨_, _, h.2.1, by omega, by decide, rfl⟩) ?_
  exact mw_iret X rfl rfl (fun H h => ⟨rfl, h⟩)
set_option maxHeartbeats 4000000 in
set_option maxRecDepth 20000 in
theorem cm_toldMore12 {l : Launch} {Γ : mw_C} {mb : Nat} (hmb : Γ.2.2.2 ≤ mb) {W : Nat → Int32} {ρ : md_R} {H : Heap} {c : Nat} (hH : md_I Γ mb W ρ H) (hv : iv c W) (hk : iv_k ρ) : mw_Cr l Γ mX5_toldMore 3 0 0 (md_A mb) [.ref mb, .int (nI 12)] H (some (.int (an_told W ρ 12))) (md_I Γ mb W ρ) := by
  refine mw_ofG (P := pX5_toldMore) (by decide) (md_As hmb) oX5_toldMore (Nat.le_of_ble_eq_true rfl) ?_
  intro pg e0 sg mg below meth cd X hs
  refine mw_pre (I' := md_I Γ mb W ρ) (fun H1 h1 => by rw [h1]; exact hH) ?_
  refine mw_steps X 1 (pc' := 1) (lv' := [(0, .ref mb), (1, .int (nI 12))]) (st' := [.int (nI 12)]) rfl ?_
  refine mw_tsInL X 10 12 rfl (by decide) (by decide) 72 rfl (by decide) rfl rfl ?_
  refine mw_steps X 1 (pc' := 73) (lv' := [(0, .ref mb), (1, .int (nI 12))]) (st' := [.ref mb]) rfl ?_
  refine mw_get X kf_X5_7.fl kc_5 rfl (v := .ref (mb + 1)) (fun H h => ⟨_, h.1, rfl⟩) ?_
  refine mw_steps X 5 (pc' := 83) (lv' := [(0, .ref mb), (1, .int (nI 12))]) (st' := [.int (((nI 6) + (nI 12)) - (nI 11)), .ref (mb + 1)]) rfl ?_
  refine mw_iald X (v := W (7)) (7) (by decide) rfl (fun H h => ⟨_, _, h.2.1, by omega, by decide, rfl⟩) ?_
  exact mw_iret X rfl rfl (fun H h => ⟨rfl, h⟩)
set_option maxHeartbeats 4000000 in
set_option maxRecDepth 20000 in
theorem cm_toldMore13 {l : Launch} {Γ : mw_C} {mb : Nat} (hmb : Γ.2.2.2 ≤ mb) {W : Nat → Int32} {ρ : md_R} {H : Heap} {c : Nat} (hH : md_I Γ mb W ρ H) (hv : iv c W) (hk : iv_k ρ) : mw_Cr l Γ mX5_toldMore 3 0 0 (md_A mb) [.ref mb, .int (nI 13)] H (some (.int (an_told W ρ 13))) (md_I Γ mb W ρ) := by
  refine mw_ofG (P := pX5_toldMore) (by decide) (md_As hmb) oX5_toldMore (Nat.le_of_ble_eq_true rfl) ?_
  intro pg e0 sg mg below meth cd X hs
  refine mw_pre (I' := md_I Γ mb W ρ) (fun H1 h1 => by rw [h1]; exact hH) ?_
  refine mw_steps X 1 (pc' := 1) (lv' := [(0, .ref mb), (1, .int (nI 13))]) (st' := [.int (nI 13)]) rfl ?_
  refine mw_tsInL X 10 13 rfl (by decide) (by decide) 72 rfl (by decide) rfl rfl ?_
  refine mw_steps X 1 (pc' := 73) (lv' := [(0, .ref mb), (1, .int (nI 13))]) (st' := [.ref mb]) rfl ?_
  refine mw_get X kf_X5_7.fl kc_5 rfl (v := .ref (mb + 1)) (fun H h => ⟨_, h.1, rfl⟩) ?_
  refine mw_steps X 5 (pc' := 83) (lv' := [(0, .ref mb), (1, .int (nI 13))]) (st' := [.int (((nI 6) + (nI 13)) - (nI 11)), .ref (mb + 1)]) rfl ?_
  refine mw_iald X (v := W (8)) (8) (by decide) rfl (fun H h => ⟨_, _, h.2.1, by omega, by decide, rfl⟩) ?_
  exact mw_iret X rfl rfl (fun H h => ⟨rfl, h⟩)
set_option maxHeartbeats 4000000 in
set_option maxRecDepth 20000 in
theorem cm_toldMore14 {l : Launch} {Γ : mw_C} {mb : Nat} (hmb : Γ.2.2.2 ≤ mb) {W : Nat → Int32} {ρ : md_R} {H : Heap} {c : Nat} (hH : md_I Γ mb W ρ H) (hv : iv c W) (hk : iv_k ρ) : mw_Cr l Γ mX5_toldMore 3 0 0 (md_A mb) [.ref mb, .int (nI 14)] H (some (.int (an_told W ρ 14))) (md_I Γ mb W ρ) := by
  refine mw_ofG (P := pX5_toldMore) (by decide) (md_As hmb) oX5_toldMore (Nat.le_of_ble_eq_true rfl) ?_
  intro pg e0 sg mg below meth cd X hs
  refine mw_pre (I' := md_I Γ mb W ρ) (fun H1 h1 => by rw [h1]; exact hH) ?_
  refine mw_steps X 1 (pc' := 1) (lv' := [(0, .ref mb), (1, .int (nI 14))]) (st' := [.int (nI 14)]) rfl ?_
  refine mw_tsInL X 10 14 rfl (by decide) (by decide) 72 rfl (by decide) rfl rfl ?_
  refine mw_steps X 1 (pc' := 73) (lv' := [(0, .ref mb), (1, .int (nI 14))]) (st' := [.ref mb]) rfl ?_
  refine mw_get X kf_X5_7.fl kc_5 rfl (v := .ref (mb + 1)) (fun H h => ⟨_, h.1, rfl⟩) ?_
  refine mw_steps X 5 (pc' := 83) (lv' := [(0, .ref mb), (1, .int (nI 14))]) (st' := [.int (((nI 6) + (nI 14)) - (nI 11)), .ref (mb + 1)]) rfl ?_
  refine mw_iald X (v := W (9)) (9) (by decide) rfl (fun H h => ⟨_, _, h.2.1, by omega, by decide, rfl⟩) ?_
  exact mw_iret X rfl rfl (fun H h => ⟨rfl, h⟩)
set_option maxHeartbeats 4000000 in
set_option maxRecDepth 20000 in
theorem cm_toldMore15 {l : Launch} {Γ : mw_C} {mb : Nat} (hmb : Γ.2.2.2 ≤ mb) {W : Nat → Int32} {ρ : md_R} {H : Heap} {c : Nat} (hH : md_I Γ mb W ρ H) (hv : iv c W) (hk : iv_k ρ) : mw_Cr l Γ mX5_toldMore 3 0 0 (md_A mb) [.ref mb, .int (nI 15)] H (some (.int (an_told W ρ 15))) (md_I Γ mb W ρ) := by
  refine mw_ofG (P := pX5_toldMore) (by decide) (md_As hmb) oX5_toldMore (Nat.le_of_ble_eq_true rfl) ?_
  intro pg e0 sg mg below meth cd X hs
  refine mw_pre (I' := md_I Γ mb W ρ) (fun H1 h1 => by rw [h1]; exact hH) ?_
  refine mw_steps X 1 (pc' := 1) (lv' := [(0, .ref mb), (1, .int (nI 15))]) (st' := [.int (nI 15)]) rfl ?_
  refine mw_tsInL X 10 15 rfl (by decide) (by decide) 85 rfl (by decide) rfl rfl ?_
  refine mw_steps X 1 (pc' := 86) (lv' := [(0, .ref mb), (1, .int (nI 15))]) (st' := [.ref mb]) rfl ?_
  refine mw_get X kf_X5_7.fl kc_5 rfl (v := .ref (mb + 1)) (fun H h => ⟨_, h.1, rfl⟩) ?_
  refine mw_steps X 1 (pc' := 91) (lv' := [(0, .ref mb), (1, .int (nI 15))]) (st' := [.int (nI 10), .ref (mb + 1)]) rfl ?_
  refine mw_iald X (v := W (10)) (10) rfl rfl (fun H h => ⟨_, _, h.2.1, by omega, by decide, rfl⟩) ?_
  exact mw_iret X rfl rfl (fun H h => ⟨rfl, h⟩)
set_option maxHeartbeats 4000000 in
set_option maxRecDepth 20000 in
theorem cm_toldMore16 {l : Launch} {Γ : mw_C} {mb : Nat} (hmb : Γ.2.2.2 ≤ mb) {W : Nat → Int32} {ρ : md_R} {H : Heap} {c : Nat} (hH : md_I Γ mb W ρ H) (hv : iv c W) (hk : iv_k ρ) : mw_Cr l Γ mX5_toldMore 3 0 0 (md_A mb) [.ref mb, .int (nI 16)] H (some (.int (an_told W ρ 16))) (md_I Γ mb W ρ) := by
  refine mw_ofG (P := pX5_toldMore) (by decide) (md_As hmb) oX5_toldMore (Nat.le_of_ble_eq_true rfl) ?_
  intro pg e0 sg mg below meth cd X hs
  refine mw_pre (I' := md_I Γ mb W ρ) (fun H1 h1 => by rw [h1]; exact hH) ?_
  refine mw_steps X 1 (pc' := 1) (lv' := [(0, .ref mb), (1, .int (nI 16))]) (st' := [.int (nI 16)]) rfl ?_
  refine mw_tsInL X 10 16 rfl (by decide) (by decide) 93 rfl (by decide) rfl rfl ?_
  refine mw_steps X 1 (pc' := 94) (lv' := [(0, .ref mb), (1, .int (nI 16))]) (st' := [.ref mb]) rfl ?_
  refine mw_cV0r X kd_X5_isSettled kv_X5_isSettled kl_X5_127 (ci := 5) rfl rfl (Nat.le_of_ble_eq_true rfl) ⟨Nat.le_of_ble_eq_true rfl, Nat.le_of_ble_eq_true rfl⟩ ⟨Nat.le_of_ble_eq_true rfl, Nat.le_of_ble_eq_true rfl⟩ (fun _ h => h) (fun H h => ⟨⟨_, h.1⟩, cm_settled hmb h hv⟩) ?_
  refine mw_if_eq X 104 rfl rfl (fun c97 => ?_) (fun c97 => ?_)
  · refine mw_steps X 1 (pc' := 105) (lv' := [(0, .ref mb), (1, .int (nI 16))]) (st' := [.int (nI 0)]) rfl ?_
    exact mw_iret X rfl rfl (fun H h => ⟨congrArg (fun z => some (Value.int z)) (show nI 0 = mo_b (mo_settled W) from by first | rw [mo_b_nz c97]; rfl | rw [mo_b_z c97]; rfl), h⟩)
  · refine mw_steps X 2 (pc' := 105) (lv' := [(0, .ref mb), (1, .int (nI 16))]) (st' := [.int (nI 1)]) rfl ?_
    exact mw_iret X rfl rfl (fun H h => ⟨congrArg (fun z => some (Value.int z)) (show nI 1 = mo_b (mo_settled W) from by first | rw [mo_b_nz c97]; rfl | rw [mo_b_z c97]; rfl), h⟩)
set_option maxHeartbeats 4000000 in
set_option maxRecDepth 20000 in
theorem cm_toldMore17 {l : Launch} {Γ : mw_C} {mb : Nat} (hmb : Γ.2.2.2 ≤ mb) {W : Nat → Int32} {ρ : md_R} {H : Heap} {c : Nat} (hH : md_I Γ mb W ρ H) (hv : iv c W) (hk : iv_k ρ) : mw_Cr l Γ mX5_toldMore 3 0 0 (md_A mb) [.ref mb, .int (nI 17)] H (some (.int (an_told W ρ 17))) (md_I Γ mb W ρ) := by
  refine mw_ofG (P := pX5_toldMore) (by decide) (md_As hmb) oX5_toldMore (Nat.le_of_ble_eq_true rfl) ?_
  intro pg e0 sg mg below meth cd X hs
  refine mw_pre (I' := md_I Γ mb W ρ) (fun H1 h1 => by rw [h1]; exact hH) ?_
  refine mw_steps X 1 (pc' := 1) (lv' := [(0, .ref mb), (1, .int (nI 17))]) (st' := [.int (nI 17)]) rfl ?_
  refine mw_tsInL X 10 17 rfl (by decide) (by decide) 106 rfl (by decide) rfl rfl ?_
  refine mw_steps X 1 (pc' := 107) (lv' := [(0, .ref mb), (1, .int (nI 17))]) (st' := [.ref mb]) rfl ?_
  refine mw_get X kf_X5_119.fl kc_5 rfl (v := .int ρ.2.2.2.2.2.2) (fun H h => ⟨_, h.1, rfl⟩) ?_
  exact mw_iret X rfl rfl (fun H h => ⟨rfl, h⟩)
set_option maxHeartbeats 4000000 in
set_option maxRecDepth 20000 in
theorem cm_toldMore18 {l : Launch} {Γ : mw_C} {mb : Nat} (hmb : Γ.2.2.2 ≤ mb) {W : Nat → Int32} {ρ : md_R} {H : Heap} {c : Nat} (hH : md_I Γ mb W ρ H) (hv : iv c W) (hk : iv_k ρ) : mw_Cr l Γ mX5_toldMore 3 0 0 (md_A mb) [.ref mb, .int (nI 18)] H (some (.int (an_told W ρ 18))) (md_I Γ mb W ρ) := by
  refine mw_ofG (P := pX5_toldMore) (by decide) (md_As hmb) oX5_toldMore (Nat.le_of_ble_eq_true rfl) ?_
  intro pg e0 sg mg below meth cd X hs
  refine mw_pre (I' := md_I Γ mb W ρ) (fun H1 h1 => by rw [h1]; exact hH) ?_
  refine mw_steps X 1 (pc' := 1) (lv' := [(0, .ref mb), (1, .int (nI 18))]) (st' := [.int (nI 18)]) rfl ?_
  refine mw_tsInL X 10 18 rfl (by decide) (by decide) 111 rfl (by decide) rfl rfl ?_
  refine mw_steps X 1 (pc' := 112) (lv' := [(0, .ref mb), (1, .int (nI 18))]) (st' := [.ref mb]) rfl ?_
  refine mw_cV0r X kd_X5_wrong kv_X5_wrong kl_X5_131 (ci := 5) rfl rfl (Nat.le_of_ble_eq_true rfl) ⟨Nat.le_of_ble_eq_true rfl, Nat.le_of_ble_eq_true rfl⟩ ⟨Nat.le_of_ble_eq_true rfl, Nat.le_of_ble_eq_true rfl⟩ (fun _ h => h) (fun H h => ⟨⟨_, h.1⟩, cm_wrong hmb h hk⟩) ?_
  exact mw_iret X rfl rfl (fun H h => ⟨rfl, h⟩)
set_option maxHeartbeats 4000000 in
set_option maxRecDepth 20000 in
theorem cm_toldMore19 {l : Launch} {Γ : mw_C} {mb : Nat} (hmb : Γ.2.2.2 ≤ mb) {W : Nat → Int32} {ρ : md_R} {H : Heap} {c : Nat} (hH : md_I Γ mb W ρ H) (hv : iv c W) (hk : iv_k ρ) : mw_Cr l Γ mX5_toldMore 3 0 0 (md_A mb) [.ref mb, .int (nI 19)] H (some (.int (an_told W ρ 19))) (md_I Γ mb W ρ) := by
  refine mw_ofG (P := pX5_toldMore) (by decide) (md_As hmb) oX5_toldMore (Nat.le_of_ble_eq_true rfl) ?_
  intro pg e0 sg mg below meth cd X hs
  refine mw_pre (I' := md_I Γ mb W ρ) (fun H1 h1 => by rw [h1]; exact hH) ?_
  refine mw_steps X 1 (pc' := 1) (lv' := [(0, .ref mb), (1, .int (nI 19))]) (st' := [.int (nI 19)]) rfl ?_
  refine mw_tsInL X 10 19 rfl (by decide) (by decide) 116 rfl (by decide) rfl rfl ?_
  refine mw_steps X 1 (pc' := 117) (lv' := [(0, .ref mb), (1, .int (nI 19))]) (st' := [.ref mb]) rfl ?_
  refine mw_get X kf_X5_135.fl kc_5 rfl (v := .int ρ.2.1) (fun H h => ⟨_, h.1, rfl⟩) ?_
  exact mw_iret X rfl rfl (fun H h => ⟨rfl, h⟩)
set_option maxHeartbeats 4000000 in
set_option maxRecDepth 20000 in
theorem cm_toldMore {l : Launch} {Γ : mw_C} {mb : Nat} (hmb : Γ.2.2.2 ≤ mb) {W : Nat → Int32} {ρ : md_R} {H : Heap} {c : Nat} {x : Int32} (hH : md_I Γ mb W ρ H) (hv : iv c W) (hk : iv_k ρ) (hx : mo_bl x 20 = false) : mw_Cr l Γ mX5_toldMore 3 0 0 (md_A mb) [.ref mb, .int x] H (some (.int oO)) (md_I Γ mb W ρ) := by
  refine mw_ofG (P := pX5_toldMore) (by decide) (md_As hmb) oX5_toldMore (Nat.le_of_ble_eq_true rfl) ?_
  intro pg e0 sg mg below meth cd X hs
  refine mw_pre (I' := md_I Γ mb W ρ) (fun H1 h1 => by rw [h1]; exact hH) ?_
  refine mw_steps X 1 (pc' := 1) (lv' := [(0, .ref mb), (1, .int x)]) (st' := [.int x]) rfl ?_
  refine mw_tsOut X 121 rfl (by have := ml_out (by omega) hx; omega) rfl ?_
  refine mw_ldc X kk_X5_138 rfl ?_
  exact mw_iret X rfl rfl (fun H h => ⟨rfl, h⟩)
set_option maxHeartbeats 4000000 in
set_option maxRecDepth 20000 in
theorem cm_told0 {l : Launch} {Γ : mw_C} {mb : Nat} (hmb : Γ.2.2.2 ≤ mb) {W : Nat → Int32} {ρ : md_R} {H : Heap} {c : Nat} (hH : md_I Γ mb W ρ H) (hv : iv c W) (hk : iv_k ρ) : mw_Cr l Γ mX5_told 4 0 0 (md_A mb) [.ref mb, .int (nI 0)] H (some (.int (an_told W ρ 0))) (md_I Γ mb W ρ) := by
  refine mw_ofG (P := pX5_told) (by decide) (md_As hmb) oX5_told (Nat.le_of_ble_eq_true rfl) ?_
  intro pg e0 sg mg below meth cd X hs
  refine mw_pre (I' := md_I Γ mb W ρ) (fun H1 h1 => by rw [h1]; exact hH) ?_
  refine mw_steps X 1 (pc' := 1) (lv' := [(0, .ref mb), (1, .int (nI 0))]) (st' := [.int (nI 0)]) rfl ?_
  refine mw_tsIn X 0 rfl (by decide) 56 rfl (by decide) rfl rfl ?_
  refine mw_steps X 1 (pc' := 57) (lv' := [(0, .ref mb), (1, .int (nI 0))]) (st' := [.ref mb]) rfl ?_
  refine mw_get X kf_X5_7.fl kc_5 rfl (v := .ref (mb + 1)) (fun H h => ⟨_, h.1, rfl⟩) ?_
  refine mw_steps X 1 (pc' := 61) (lv' := [(0, .ref mb), (1, .int (nI 0))]) (st' := [.int (nI 0), .ref (mb + 1)]) rfl ?_
  refine mw_iald X (v := W (0)) (0) rfl rfl (fun H h => ⟨_, _, h.2.1, by omega, by decide, rfl⟩) ?_
  exact mw_iret X rfl rfl (fun H h => ⟨rfl, h⟩)
set_option maxHeartbeats 4000000 in
set_option maxRecDepth 20000 in
theorem cm_told1 {l : Launch} {Γ : mw_C} {mb : Nat} (hmb : Γ.2.2.2 ≤ mb) {W : Nat → Int32} {ρ : md_R} {H : Heap} {c : Nat} (hH : md_I Γ mb W ρ H) (hv : iv c W) (hk : iv_k ρ) : mw_Cr l Γ mX5_told 4 0 0 (md_A mb) [.ref mb, .int (nI 1)] H (some (.int (an_told W ρ 1))) (md_I Γ mb W ρ) := by
  refine mw_ofG (P := pX5_told) (by decide) (md_As hmb) oX5_told (Nat.le_of_ble_eq_true rfl) ?_
  intro pg e0 sg mg below meth cd X hs
  refine mw_pre (I' := md_I Γ mb W ρ) (fun H1 h1 => by rw [h1]; exact hH) ?_
  refine mw_steps X 1 (pc' := 1) (lv' := [(0, .ref mb), (1, .int (nI 1))]) (st' := [.int (nI 1)]) rfl ?_
  refine mw_tsIn X 1 rfl (by decide) 63 rfl (by decide) rfl rfl ?_
  refine mw_steps X 1 (pc' := 64) (lv' := [(0, .ref mb), (1, .int (nI 1))]) (st' := [.ref mb]) rfl ?_
  refine mw_get X kf_X5_7.fl kc_5 rfl (v := .ref (mb + 1)) (fun H h => ⟨_, h.1, rfl⟩) ?_
  refine mw_steps X 1 (pc' := 69) (lv' := [(0, .ref mb), (1, .int (nI 1))]) (st' := [.int (nI 11), .ref (mb + 1)]) rfl ?_
  refine mw_iald X (v := W (11)) (11) rfl rfl (fun H h => ⟨_, _, h.2.1, by omega, by decide, rfl⟩) ?_
  exact mw_iret X rfl rfl (fun H h => ⟨rfl, h⟩)
set_option maxHeartbeats 4000000 in
set_option maxRecDepth 20000 in
theorem cm_told2 {l : Launch} {Γ : mw_C} {mb : Nat} (hmb : Γ.2.2.2 ≤ mb) {W : Nat → Int32} {ρ : md_R} {H : Heap} {c : Nat} (hH : md_I Γ mb W ρ H) (hv : iv c W) (hk : iv_k ρ) : mw_Cr l Γ mX5_told 4 0 0 (md_A mb) [.ref mb, .int (nI 2)] H (some (.int (an_told W ρ 2))) (md_I Γ mb W ρ) := by
  refine mw_ofG (P := pX5_told) (by decide) (md_As hmb) oX5_told (Nat.le_of_ble_eq_true rfl) ?_
  intro pg e0 sg mg below meth cd X hs
  refine mw_pre (I' := md_I Γ mb W ρ) (fun H1 h1 => by rw [h1]; exact hH) ?_
  refine mw_steps X 1 (pc' := 1) (lv' := [(0, .ref mb), (1, .int (nI 2))]) (st' := [.int (nI 2)]) rfl ?_
  refine mw_tsIn X 2 rfl (by decide) 71 rfl (by decide) rfl rfl ?_
  refine mw_steps X 1 (pc' := 72) (lv' := [(0, .ref mb), (1, .int (nI 2))]) (st' := [.ref mb]) rfl ?_
  refine mw_get X kf_X5_7.fl kc_5 rfl (v := .ref (mb + 1)) (fun H h => ⟨_, h.1, rfl⟩) ?_
  refine mw_steps X 1 (pc' := 77) (lv' := [(0, .ref mb), (1, .int (nI 2))]) (st' := [.int (nI 12), .ref (mb + 1)]) rfl ?_
  refine mw_iald X (v := W (12)) (12) rfl rfl (fun H h => ⟨_, _, h.2.1, by omega, by decide, rfl⟩) ?_
  exact mw_iret X rfl rfl (fun H h => ⟨rfl, h⟩)
set_option maxHeartbeats 4000000 in
set_option maxRecDepth 20000 in
theorem cm_told3 {l : Launch} {Γ : mw_C} {mb : Nat} (hmb : Γ.2.2.2 ≤ mb) {W : Nat → Int32} {ρ : md_R} {H : Heap} {c : Nat} (hH : md_I Γ mb W ρ H) (hv : iv c W) (hk : iv_k ρ) : mw_Cr l Γ mX5_told 4 0 0 (md_A mb) [.ref mb, .int (nI 3)] H (some (.int (an_told W ρ 3))) (md_I Γ mb W ρ) := by
  refine mw_ofG (P := pX5_told) (by decide) (md_As hmb) oX5_told (Nat.le_of_ble_eq_true rfl) ?_
  intro pg e0 sg mg below meth cd X hs
  refine mw_pre (I' := md_I Γ mb W ρ) (fun H1 h1 => by rw [h1]; exact hH) ?_
  refine mw_steps X 1 (pc' := 1) (lv' := [(0, .ref mb), (1, .int (nI 3))]) (st' := [.int (nI 3)]) rfl ?_
  refine mw_tsIn X 3 rfl (by decide) 79 rfl (by decide) rfl rfl ?_
  refine mw_steps X 1 (pc' := 80) (lv' := [(0, .ref mb), (1, .int (nI 3))]) (st' := [.ref mb]) rfl ?_
  refine mw_get X kf_X5_7.fl kc_5 rfl (v := .ref (mb + 1)) (fun H h => ⟨_, h.1, rfl⟩) ?_
  refine mw_steps X 1 (pc' := 85) (lv' := [(0, .ref mb), (1, .int (nI 3))]) (st' := [.int (nI 13), .ref (mb + 1)]) rfl ?_
  refine mw_iald X (v := W (13)) (13) rfl rfl (fun H h => ⟨_, _, h.2.1, by omega, by decide, rfl⟩) ?_
  exact mw_iret X rfl rfl (fun H h => ⟨rfl, h⟩)
set_option maxHeartbeats 4000000 in
set_option maxRecDepth 20000 in
theorem cm_told4 {l : Launch} {Γ : mw_C} {mb : Nat} (hmb : Γ.2.2.2 ≤ mb) {W : Nat → Int32} {ρ : md_R} {H : Heap} {c : Nat} (hH : md_I Γ mb W ρ H) (hv : iv c W) (hk : iv_k ρ) : mw_Cr l Γ mX5_told 4 0 0 (md_A mb) [.ref mb, .int (nI 4)] H (some (.int (an_told W ρ 4))) (md_I Γ mb W ρ) := by
  refine mw_ofG (P := pX5_told) (by decide) (md_As hmb) oX5_told (Nat.le_of_ble_eq_true rfl) ?_
  intro pg e0 sg mg below meth cd X hs
  refine mw_pre (I' := md_I Γ mb W ρ) (fun H1 h1 => by rw [h1]; exact hH) ?_
  refine mw_steps X 1 (pc' := 1) (lv' := [(0, .ref mb), (1, .int (nI 4))]) (st' := [.int (nI 4)]) rfl ?_
  refine mw_tsIn X 4 rfl (by decide) 87 rfl (by decide) rfl rfl ?_
  refine mw_steps X 1 (pc' := 88) (lv' := [(0, .ref mb), (1, .int (nI 4))]) (st' := [.ref mb]) rfl ?_
  refine mw_get X kf_X5_7.fl kc_5 rfl (v := .ref (mb + 1)) (fun H h => ⟨_, h.1, rfl⟩) ?_
  refine mw_steps X 1 (pc' := 92) (lv' := [(0, .ref mb), (1, .int (nI 4))]) (st' := [.int (nI 2), .ref (mb + 1)]) rfl ?_
  refine mw_iald X (v := W (2)) (2) rfl rfl (fun H h => ⟨_, _, h.2.1, by omega, by decide, rfl⟩) ?_
  exact mw_iret X rfl rfl (fun H h => ⟨rfl, h⟩)
set_option maxHeartbeats 4000000 in
set_option maxRecDepth 20000 in
theorem cm_told5 {l : Launch} {Γ : mw_C} {mb : Nat} (hmb : Γ.2.2.2 ≤ mb) {W : Nat → Int32} {ρ : md_R} {H : Heap} {c : Nat} (hH : md_I Γ mb W ρ H) (hv : iv c W) (hk : iv_k ρ) : mw_Cr l Γ mX5_told 4 0 0 (md_A mb) [.ref mb, .int (nI 5)] H (some (.int (an_told W ρ 5))) (md_I Γ mb W ρ) := by
  refine mw_ofG (P := pX5_told) (by decide) (md_As hmb) oX5_told (Nat.le_of_ble_eq_true rfl) ?_
  intro pg e0 sg mg below meth cd X hs
  refine mw_pre (I' := md_I Γ mb W ρ) (fun H1 h1 => by rw [h1]; exact hH) ?_
  refine mw_steps X 1 (pc' := 1) (lv' := [(0, .ref mb), (1, .int (nI 5))]) (st' := [.int (nI 5)]) rfl ?_
  refine mw_tsIn X 5 rfl (by decide) 94 rfl (by decide) rfl rfl ?_
  refine mw_steps X 1 (pc' := 95) (lv' := [(0, .ref mb), (1, .int (nI 5))]) (st' := [.ref mb]) rfl ?_
  refine mw_get X kf_X5_7.fl kc_5 rfl (v := .ref (mb + 1)) (fun H h => ⟨_, h.1, rfl⟩) ?_
  refine mw_steps X 1 (pc' := 99) (lv' := [(0, .ref mb), (1, .int (nI 5))]) (st' := [.int (nI 3), .ref (mb + 1)]) rfl ?_
  refine mw_iald X (v := W (3)) (3) rfl rfl (fun H h => ⟨_, _, h.2.1, by omega, by decide, rfl⟩) ?_
  exact mw_iret X rfl rfl (fun H h => ⟨rfl, h⟩)
set_option maxHeartbeats 4000000 in
set_option maxRecDepth 20000 in
theorem cm_told6 {l : Launch} {Γ : mw_C} {mb : Nat} (hmb : Γ.2.2.2 ≤ mb) {W : Nat → Int32} {ρ : md_R} {H : Heap} {c : Nat} (hH : md_I Γ mb W ρ H) (hv : iv c W) (hk : iv_k ρ) : mw_Cr l Γ mX5_told 4 0 0 (md_A mb) [.ref mb, .int (nI 6)] H (some (.int (an_told W ρ 6))) (md_I Γ mb W ρ) := by
  refine mw_ofG (P := pX5_told) (by decide) (md_As hmb) oX5_told (Nat.le_of_ble_eq_true rfl) ?_
  intro pg e0 sg mg below meth cd X hs
  refine mw_pre (I' := md_I Γ mb W ρ) (fun H1 h1 => by rw [h1]; exact hH) ?_
  refine mw_steps X 1 (pc' := 1) (lv' := [(0, .ref mb), (1, .int (nI 6))]) (st' := [.int (nI 6)]) rfl ?_
  refine mw_tsIn X 6 rfl (by decide) 101 rfl (by decide) rfl rfl ?_
  refine mw_steps X 1 (pc' := 102) (lv' := [(0, .ref mb), (1, .int (nI 6))]) (st' := [.ref mb]) rfl ?_
  refine mw_get X kf_X5_7.fl kc_5 rfl (v := .ref (mb + 1)) (fun H h => ⟨_, h.1, rfl⟩) ?_
  refine mw_steps X 1 (pc' := 106) (lv' := [(0, .ref mb), (1, .int (nI 6))]) (st' := [.int (nI 4), .ref (mb + 1)]) rfl ?_
  refine mw_iald X (v := W (4)) (4) rfl rfl (fun H h => ⟨_, _, h.2.1, by omega, by decide, rfl⟩) ?_
  exact mw_iret X rfl rfl (fun H h => ⟨rfl, h⟩)
set_option maxHeartbeats 4000000 in
set_option maxRecDepth 20000 in
theorem cm_told7 {l : Launch} {Γ : mw_C} {mb : Nat} (hmb : Γ.2.2.2 ≤ mb) {W : Nat → Int32} {ρ : md_R} {H : Heap} {c : Nat} (hH : md_I Γ mb W ρ H) (hv : iv c W) (hk : iv_k ρ) : mw_Cr l Γ mX5_told 4 0 0 (md_A mb) [.ref mb, .int (nI 7)] H (some (.int (an_told W ρ 7))) (md_I Γ mb W ρ) := by
  refine mw_ofG (P := pX5_told) (by decide) (md_As hmb) oX5_told (Nat.le_of_ble_eq_true rfl) ?_
  intro pg e0 sg mg below meth cd X hs
  refine mw_pre (I' := md_I Γ mb W ρ) (fun H1 h1 => by rw [h1]; exact hH) ?_
  refine mw_steps X 1 (pc' := 1) (lv' := [(0, .ref mb), (1, .int (nI 7))]) (st' := [.int (nI 7)]) rfl ?_
  refine mw_tsIn X 7 rfl (by decide) 108 rfl (by decide) rfl rfl ?_
  refine mw_steps X 1 (pc' := 109) (lv' := [(0, .ref mb), (1, .int (nI 7))]) (st' := [.ref mb]) rfl ?_
  refine mw_get X kf_X5_7.fl kc_5 rfl (v := .ref (mb + 1)) (fun H h => ⟨_, h.1, rfl⟩) ?_
  refine mw_steps X 1 (pc' := 113) (lv' := [(0, .ref mb), (1, .int (nI 7))]) (st' := [.int (nI 5), .ref (mb + 1)]) rfl ?_
  refine mw_iald X (v := W (5)) (5) rfl rfl (fun H h => ⟨_, _, h.2.1, by omega, by decide, rfl⟩) ?_
  exact mw_iret X rfl rfl (fun H h => ⟨rfl, h⟩)
set_option maxHeartbeats 4000000 in
set_option maxRecDepth 20000 in
theorem cm_told8 {l : Launch} {Γ : mw_C} {mb : Nat} (hmb : Γ.2.2.2 ≤ mb) {W : Nat → Int32} {ρ : md_R} {H : Heap} {c : Nat} (hH : md_I Γ mb W ρ H) (hv : iv c W) (hk : iv_k ρ) : mw_Cr l Γ mX5_told 4 0 0 (md_A mb) [.ref mb, .int (nI 8)] H (some (.int (an_told W ρ 8))) (md_I Γ mb W ρ) := by
  refine mw_ofG (P := pX5_told) (by decide) (md_As hmb) oX5_told (Nat.le_of_ble_eq_true rfl) ?_
  intro pg e0 sg mg below meth cd X hs
  refine mw_pre (I' := md_I Γ mb W ρ) (fun H1 h1 => by rw [h1]; exact hH) ?_
  refine mw_steps X 1 (pc' := 1) (lv' := [(0, .ref mb), (1, .int (nI 8))]) (st' := [.int (nI 8)]) rfl ?_
  refine mw_tsIn X 8 rfl (by decide) 115 rfl (by decide) rfl rfl ?_
  refine mw_steps X 1 (pc' := 116) (lv' := [(0, .ref mb), (1, .int (nI 8))]) (st' := [.ref mb]) rfl ?_
  refine mw_get X kf_X5_7.fl kc_5 rfl (v := .ref (mb + 1)) (fun H h => ⟨_, h.1, rfl⟩) ?_
  refine mw_steps X 1 (pc' := 120) (lv' := [(0, .ref mb), (1, .int (nI 8))]) (st' := [.int (nI 1), .ref (mb + 1)]) rfl ?_
  refine mw_iald X (v := W (1)) (1) rfl rfl (fun H h => ⟨_, _, h.2.1, by omega, by decide, rfl⟩) ?_
  exact mw_iret X rfl rfl (fun H h => ⟨rfl, h⟩)
set_option maxHeartbeats 4000000 in
set_option maxRecDepth 20000 in
theorem cm_told9 {l : Launch} {Γ : mw_C} {mb : Nat} (hmb : Γ.2.2.2 ≤ mb) {W : Nat → Int32} {ρ : md_R} {H : Heap} {c : Nat} (hH : md_I Γ mb W ρ H) (hv : iv c W) (hk : iv_k ρ) : mw_Cr l Γ mX5_told 4 0 0 (md_A mb) [.ref mb, .int (nI 9)] H (some (.int (an_told W ρ 9))) (md_I Γ mb W ρ) := by
  refine mw_ofG (P := pX5_told) (by decide) (md_As hmb) oX5_told (Nat.le_of_ble_eq_true rfl) ?_
  intro pg e0 sg mg below meth cd X hs
  refine mw_pre (I' := md_I Γ mb W ρ) (fun H1 h1 => by rw [h1]; exact hH) ?_
  refine mw_steps X 1 (pc' := 1) (lv' := [(0, .ref mb), (1, .int (nI 9))]) (st' := [.int (nI 9)]) rfl ?_
  refine mw_tsIn X 9 rfl (by decide) 122 rfl (by decide) rfl rfl ?_
  refine mw_steps X 3 (pc' := 126) (lv' := [(0, .ref mb), (1, .int (nI 9))]) (st' := [.int (nI 1), .int (nI 47), .ref mb]) rfl ?_
  refine mw_cV2r X kd_X5_manyOf kv_X5_manyOf kl_X5_123 (ci := 5) rfl rfl (Nat.le_of_ble_eq_true rfl) ⟨Nat.le_of_ble_eq_true rfl, Nat.le_of_ble_eq_true rfl⟩ ⟨Nat.le_of_ble_eq_true rfl, Nat.le_of_ble_eq_true rfl⟩ (fun _ h => h) (fun H h => ⟨⟨_, h.1⟩, cm_manyOf hmb h (f := 47) (v := nI 1) (by omega)⟩) ?_
  exact mw_iret X rfl rfl (fun H h => ⟨rfl, h⟩)
set_option maxHeartbeats 4000000 in
set_option maxRecDepth 20000 in
theorem cm_told10 {l : Launch} {Γ : mw_C} {mb : Nat} (hmb : Γ.2.2.2 ≤ mb) {W : Nat → Int32} {ρ : md_R} {H : Heap} {c : Nat} (hH : md_I Γ mb W ρ H) (hv : iv c W) (hk : iv_k ρ) : mw_Cr l Γ mX5_told 4 0 0 (md_A mb) [.ref mb, .int (nI 10)] H (some (.int (an_told W ρ 10))) (md_I Γ mb W ρ) := by
  refine mw_ofG (P := pX5_told) (by decide) (md_As hmb) oX5_told (Nat.le_of_ble_eq_true rfl) ?_
  intro pg e0 sg mg below meth cd X hs
  refine mw_pre (I' := md_I Γ mb W ρ) (fun H1 h1 => by rw [h1]; exact hH) ?_
  refine mw_steps X 1 (pc' := 1) (lv' := [(0, .ref mb), (1, .int (nI 10))]) (st' := [.int (nI 10)]) rfl ?_
  refine mw_tsOut X 130 rfl (Or.inr (by decide)) rfl ?_
  refine mw_steps X 2 (pc' := 132) (lv' := [(0, .ref mb), (1, .int (nI 10))]) (st' := [.int (nI 10), .ref mb]) rfl ?_
  refine mw_cV1r X kd_X5_toldMore kv_X5_toldMore kl_X5_139 (ci := 5) rfl rfl (Nat.le_of_ble_eq_true rfl) ⟨Nat.le_of_ble_eq_true rfl, Nat.le_of_ble_eq_true rfl⟩ ⟨Nat.le_of_ble_eq_true rfl, Nat.le_of_ble_eq_true rfl⟩ (fun _ h => h) (fun H h => ⟨⟨_, h.1⟩, cm_toldMore10 hmb h hv hk⟩) ?_
  exact mw_iret X rfl rfl (fun H h => ⟨rfl, h⟩)
set_option maxHeartbeats 4000000 in
set_option maxRecDepth 20000 in
theorem cm_told11 {l : Launch} {Γ : mw_C} {mb : Nat} (hmb : Γ.2.2.2 ≤ mb) {W : Nat → Int32} {ρ : md_R} {H : Heap} {c : Nat} (hH : md_I Γ mb W ρ H) (hv : iv c W) (hk : iv_k ρ) : mw_Cr l Γ mX5_told 4 0 0 (md_A mb) [.ref mb, .int (nI 11)] H (some (.int (an_told W ρ 11))) (md_I Γ mb W ρ) := by
  refine mw_ofG (P := pX5_told) (by decide) (md_As hmb) oX5_told (Nat.le_of_ble_eq_true rfl) ?_
  intro pg e0 sg mg below meth cd X hs
  refine mw_pre (I' := md_I Γ mb W ρ) (fun H1 h1 => by rw [h1]; exact hH) ?_
  refine mw_steps X 1 (pc' := 1) (lv' := [(0, .ref mb), (1, .int (nI 11))]) (st' := [.int (nI 11)]) rfl ?_
  refine mw_tsOut X 130 rfl (Or.inr (by decide)) rfl ?_
  refine mw_steps X 2 (pc' := 132) (lv' := [(0, .ref mb), (1, .int (nI 11))]) (st' := [.int (nI 11), .ref mb]) rfl ?_
  refine mw_cV1r X kd_X5_toldMore kv_X5_toldMore kl_X5_139 (ci := 5) rfl rfl (Nat.le_of_ble_eq_true rfl) ⟨Nat.le_of_ble_eq_true rfl, Nat.le_of_ble_eq_true rfl⟩ ⟨Nat.le_of_ble_eq_true rfl, Nat.le_of_ble_eq_true rfl⟩ (fun _ h => h) (fun H h => ⟨⟨_, h.1⟩, cm_toldMore11 hmb h hv hk⟩) ?_
  exact mw_iret X rfl rfl (fun H h => ⟨rfl, h⟩)
set_option maxHeartbeats 4000000 in
set_option maxRecDepth 20000 in
theorem cm_told12 {l : Launch} {Γ : mw_C} {mb : Nat} (hmb : Γ.2.2.2 ≤ mb) {W : Nat → Int32} {ρ : md_R} {H : Heap} {c : Nat} (hH : md_I Γ mb W ρ H) (hv : iv c W) (hk : iv_k ρ) : mw_Cr l Γ mX5_told 4 0 0 (md_A mb) [.ref mb, .int (nI 12)] H (some (.int (an_told W ρ 12))) (md_I Γ mb W ρ) := by
  refine mw_ofG (P := pX5_told) (by decide) (md_As hmb) oX5_told (Nat.le_of_ble_eq_true rfl) ?_
  intro pg e0 sg mg below meth cd X hs
  refine mw_pre (I' := md_I Γ mb W ρ) (fun H1 h1 => by rw [h1]; exact hH) ?_
  refine mw_steps X 1 (pc' := 1) (lv' := [(0, .ref mb), (1, .int (nI 12))]) (st' := [.int (nI 12)]) rfl ?_
  refine mw_tsOut X 130 rfl (Or.inr (by decide)) rfl ?_
  refine mw_steps X 2 (pc' := 132) (lv' := [(0, .ref mb), (1, .int (nI 12))]) (st' := [.int (nI 12), .ref mb]) rfl ?_
  refine mw_cV1r X kd_X5_toldMore kv_X5_toldMore kl_X5_139 (ci := 5) rfl rfl (Nat.le_of_ble_eq_true rfl) ⟨Nat.le_of_ble_eq_true rfl, Nat.le_of_ble_eq_true rfl⟩ ⟨Nat.le_of_ble_eq_true rfl, Nat.le_of_ble_eq_true rfl⟩ (fun _ h => h) (fun H h => ⟨⟨_, h.1⟩, cm_toldMore12 hmb h hv hk⟩) ?_
  exact mw_iret X rfl rfl (fun H h => ⟨rfl, h⟩)
set_option maxHeartbeats 4000000 in
set_option maxRecDepth 20000 in
theorem cm_told13 {l : Launch} {Γ : mw_C} {mb : Nat} (hmb : Γ.2.2.2 ≤ mb) {W : Nat → Int32} {ρ : md_R} {H : Heap} {c : Nat} (hH : md_I Γ mb W ρ H) (hv : iv c W) (hk : iv_k ρ) : mw_Cr l Γ mX5_told 4 0 0 (md_A mb) [.ref mb, .int (nI 13)] H (some (.int (an_told W ρ 13))) (md_I Γ mb W ρ) := by
  refine mw_ofG (P := pX5_told) (by decide) (md_As hmb) oX5_told (Nat.le_of_ble_eq_true rfl) ?_
  intro pg e0 sg mg below meth cd X hs
  refine mw_pre (I' := md_I Γ mb W ρ) (fun H1 h1 => by rw [h1]; exact hH) ?_
  refine mw_steps X 1 (pc' := 1) (lv' := [(0, .ref mb), (1, .int (nI 13))]) (st' := [.int (nI 13)]) rfl ?_
  refine mw_tsOut X 130 rfl (Or.inr (by decide)) rfl ?_
  refine mw_steps X 2 (pc' := 132) (lv' := [(0, .ref mb), (1, .int (nI 13))]) (st' := [.int (nI 13), .ref mb]) rfl ?_
  refine mw_cV1r X kd_X5_toldMore kv_X5_toldMore kl_X5_139 (ci := 5) rfl rfl (Nat.le_of_ble_eq_true rfl) ⟨Nat.le_of_ble_eq_true rfl, Nat.le_of_ble_eq_true rfl⟩ ⟨Nat.le_of_ble_eq_true rfl, Nat.le_of_ble_eq_true rfl⟩ (fun _ h => h) (fun H h => ⟨⟨_, h.1⟩, cm_toldMore13 hmb h hv hk⟩) ?_
  exact mw_iret X rfl rfl (fun H h => ⟨rfl, h⟩)
set_option maxHeartbeats 4000000 in
set_option maxRecDepth 20000 in
theorem cm_told14 {l : Launch} {Γ : mw_C} {mb : Nat} (hmb : Γ.2.2.2 ≤ mb) {W : Nat → Int32} {ρ : md_R} {H : Heap} {c : Nat} (hH : md_I Γ mb W ρ H) (hv : iv c W) (hk : iv_k ρ) : mw_Cr l Γ mX5_told 4 0 0 (md_A mb) [.ref mb, .int (nI 14)] H (some (.int (an_told W ρ 14))) (md_I Γ mb W ρ) := by
  refine mw_ofG (P := pX5_told) (by decide) (md_As hmb) oX5_told (Nat.le_of_ble_eq_true rfl) ?_
  intro pg e0 sg mg below meth cd X hs
  refine mw_pre (I' := md_I Γ mb W ρ) (fun H1 h1 => by rw [h1]; exact hH) ?_
  refine mw_steps X 1 (pc' := 1) (lv' := [(0, .ref mb), (1, .int (nI 14))]) (st' := [.int (nI 14)]) rfl ?_
  refine mw_tsOut X 130 rfl (Or.inr (by decide)) rfl ?_
  refine mw_steps X 2 (pc' := 132) (lv' := [(0, .ref mb), (1, .int (nI 14))]) (st' := [.int (nI 14), .ref mb]) rfl ?_
  refine mw_cV1r X kd_X5_toldMore kv_X5_toldMore kl_X5_139 (ci := 5) rfl rfl (Nat.le_of_ble_eq_true rfl) ⟨Nat.le_of_ble_eq_true rfl, Nat.le_of_ble_eq_true rfl⟩ ⟨Nat.le_of_ble_eq_true rfl, Nat.le_of_ble_eq_true rfl⟩ (fun _ h => h) (fun H h => ⟨⟨_, h.1⟩, cm_toldMore14 hmb h hv hk⟩) ?_
  exact mw_iret X rfl rfl (fun H h => ⟨rfl, h⟩)
set_option maxHeartbeats 4000000 in
set_option maxRecDepth 20000 in
theorem cm_told15 {l : Launch} {Γ : mw_C} {mb : Nat} (hmb : Γ.2.2.2 ≤ mb) {W : Nat → Int32} {ρ : md_R} {H : Heap} {c : Nat} (hH : md_I Γ mb W ρ H) (hv : iv c W) (hk : iv_k ρ) : mw_Cr l Γ mX5_told 4 0 0 (md_A mb) [.ref mb, .int (nI 15)] H (some (.int (an_told W ρ 15))) (md_I Γ mb W ρ) := by
  refine mw_ofG (P := pX5_told) (by decide) (md_As hmb) oX5_told (Nat.le_of_ble_eq_true rfl) ?_
  intro pg e0 sg mg below meth cd X hs
  refine mw_pre (I' := md_I Γ mb W ρ) (fun H1 h1 => by rw [h1]; exact hH) ?_
  refine mw_steps X 1 (pc' := 1) (lv' := [(0, .ref mb), (1, .int (nI 15))]) (st' := [.int (nI 15)]) rfl ?_
  refine mw_tsOut X 130 rfl (Or.inr (by decide)) rfl ?_
  refine mw_steps X 2 (pc' := 132) (lv' := [(0, .ref mb), (1, .int (nI 15))]) (st' := [.int (nI 15), .ref mb]) rfl ?_
  refine mw_cV1r X kd_X5_toldMore kv_X5_toldMore kl_X5_139 (ci := 5) rfl rfl (Nat.le_of_ble_eq_true rfl) ⟨Nat.le_of_ble_eq_true rfl, Nat.le_of_ble_eq_true rfl⟩ ⟨Nat.le_of_ble_eq_true rfl, Nat.le_of_ble_eq_true rfl⟩ (fun _ h => h) (fun H h => ⟨⟨_, h.1⟩, cm_toldMore15 hmb h hv hk⟩) ?_
  exact mw_iret X rfl rfl (fun H h => ⟨rfl, h⟩)
set_option maxHeartbeats 4000000 in
set_option maxRecDepth 20000 in
theorem cm_told16 {l : Launch} {Γ : mw_C} {mb : Nat} (hmb : Γ.2.2.2 ≤ mb) {W : Nat → Int32} {ρ : md_R} {H : Heap} {c : Nat} (hH : md_I Γ mb W ρ H) (hv : iv c W) (hk : iv_k ρ) : mw_Cr l Γ mX5_told 4 0 0 (md_A mb) [.ref mb, .int (nI 16)] H (some (.int (an_told W ρ 16))) (md_I Γ mb W ρ) := by
  refine mw_ofG (P := pX5_told) (by decide) (md_As hmb) oX5_told (Nat.le_of_ble_eq_true rfl) ?_
  intro pg e0 sg mg below meth cd X hs
  refine mw_pre (I' := md_I Γ mb W ρ) (fun H1 h1 => by rw [h1]; exact hH) ?_
  refine mw_steps X 1 (pc' := 1) (lv' := [(0, .ref mb), (1, .int (nI 16))]) (st' := [.int (nI 16)]) rfl ?_
  refine mw_tsOut X 130 rfl (Or.inr (by decide)) rfl ?_
  refine mw_steps X 2 (pc' := 132) (lv' := [(0, .ref mb), (1, .int (nI 16))]) (st' := [.int (nI 16), .ref mb]) rfl ?_
  refine mw_cV1r X kd_X5_toldMore kv_X5_toldMore kl_X5_139 (ci := 5) rfl rfl (Nat.le_of_ble_eq_true rfl) ⟨Nat.le_of_ble_eq_true rfl, Nat.le_of_ble_eq_true rfl⟩ ⟨Nat.le_of_ble_eq_true rfl, Nat.le_of_ble_eq_true rfl⟩ (fun _ h => h) (fun H h => ⟨⟨_, h.1⟩, cm_toldMore16 hmb h hv hk⟩) ?_
  exact mw_iret X rfl rfl (fun H h => ⟨rfl, h⟩)
set_option maxHeartbeats 4000000 in
set_option maxRecDepth 20000 in
theorem cm_told17 {l : Launch} {Γ : mw_C} {mb : Nat} (hmb : Γ.2.2.2 ≤ mb) {W : Nat → Int32} {ρ : md_R} {H : Heap} {c : Nat} (hH : md_I Γ mb W ρ H) (hv : iv c W) (hk : iv_k ρ) : mw_Cr l Γ mX5_told 4 0 0 (md_A mb) [.ref mb, .int (nI 17)] H (some (.int (an_told W ρ 17))) (md_I Γ mb W ρ) := by
  refine mw_ofG (P := pX5_told) (by decide) (md_As hmb) oX5_told (Nat.le_of_ble_eq_true rfl) ?_
  intro pg e0 sg mg below meth cd X hs
  refine mw_pre (I' := md_I Γ mb W ρ) (fun H1 h1 => by rw [h1]; exact hH) ?_
  refine mw_steps X 1 (pc' := 1) (lv' := [(0, .ref mb), (1, .int (nI 17))]) (st' := [.int (nI 17)]) rfl ?_
  refine mw_tsOut X 130 rfl (Or.inr (by decide)) rfl ?_
  refine mw_steps X 2 (pc' := 132) (lv' := [(0, .ref mb), (1, .int (nI 17))]) (st' := [.int (nI 17), .ref mb]) rfl ?_
  refine mw_cV1r X kd_X5_toldMore kv_X5_toldMore kl_X5_139 (ci := 5) rfl rfl (Nat.le_of_ble_eq_true rfl) ⟨Nat.le_of_ble_eq_true rfl, Nat.le_of_ble_eq_true rfl⟩ ⟨Nat.le_of_ble_eq_true rfl, Nat.le_of_ble_eq_true rfl⟩ (fun _ h => h) (fun H h => ⟨⟨_, h.1⟩, cm_toldMore17 hmb h hv hk⟩) ?_
  exact mw_iret X rfl rfl (fun H h => ⟨rfl, h⟩)
set_option maxHeartbeats 4000000 in
set_option maxRecDepth 20000 in
theorem cm_told18 {l : Launch} {Γ : mw_C} {mb : Nat} (hmb : Γ.2.2.2 ≤ mb) {W : Nat → Int32} {ρ : md_R} {H : Heap} {c : Nat} (hH : md_I Γ mb W ρ H) (hv : iv c W) (hk : iv_k ρ) : mw_Cr l Γ mX5_told 4 0 0 (md_A mb) [.ref mb, .int (nI 18)] H (some (.int (an_told W ρ 18))) (md_I Γ mb W ρ) := by
  refine mw_ofG (P := pX5_told) (by decide) (md_As hmb) oX5_told (Nat.le_of_ble_eq_true rfl) ?_
  intro pg e0 sg mg below meth cd X hs
  refine mw_pre (I' := md_I Γ mb W ρ) (fun H1 h1 => by rw [h1]; exact hH) ?_
  refine mw_steps X 1 (pc' := 1) (lv' := [(0, .ref mb), (1, .int (nI 18))]) (st' := [.int (nI 18)]) rfl ?_
  refine mw_tsOut X 130 rfl (Or.inr (by decide)) rfl ?_
  refine mw_steps X 2 (pc' := 132) (lv' := [(0, .ref mb), (1, .int (nI 18))]) (st' := [.int (nI 18), .ref mb]) rfl ?_
  refine mw_cV1r X kd_X5_toldMore kv_X5_toldMore kl_X5_139 (ci := 5) rfl rfl (Nat.le_of_ble_eq_true rfl) ⟨Nat.le_of_ble_eq_true rfl, Nat.le_of_ble_eq_true rfl⟩ ⟨Nat.le_of_ble_eq_true rfl, Nat.le_of_ble_eq_true rfl⟩ (fun _ h => h) (fun H h => ⟨⟨_, h.1⟩, cm_toldMore18 hmb h hv hk⟩) ?_
  exact mw_iret X rfl rfl (fun H h => ⟨rfl, h⟩)
set_option maxHeartbeats 4000000 in
set_option maxRecDepth 20000 in
theorem cm_told19 {l : Launch} {Γ : mw_C} {mb : Nat} (hmb : Γ.2.2.2 ≤ mb) {W : Nat → Int32} {ρ : md_R} {H : Heap} {c : Nat} (hH : md_I Γ mb W ρ H) (hv : iv c W) (hk : iv_k ρ) : mw_Cr l Γ mX5_told 4 0 0 (md_A mb) [.ref mb, .int (nI 19)] H (some (.int (an_told W ρ 19))) (md_I Γ mb W ρ) := by
  refine mw_ofG (P := pX5_told) (by decide) (md_As hmb) oX5_told (Nat.le_of_ble_eq_true rfl) ?_
  intro pg e0 sg mg below meth cd X hs
  refine mw_pre (I' := md_I Γ mb W ρ) (fun H1 h1 => by rw [h1]; exact hH) ?_
  refine mw_steps X 1 (pc' := 1) (lv' := [(0, .ref mb), (1, .int (nI 19))]) (st' := [.int (nI 19)]) rfl ?_
  refine mw_tsOut X 130 rfl (Or.inr (by decide)) rfl ?_
  refine mw_steps X 2 (pc' := 132) (lv' := [(0, .ref mb), (1, .int (nI 19))]) (st' := [.int (nI 19), .ref mb]) rfl ?_
  refine mw_cV1r X kd_X5_toldMore kv_X5_toldMore kl_X5_139 (ci := 5) rfl rfl (Nat.le_of_ble_eq_true rfl) ⟨Nat.le_of_ble_eq_true rfl, Nat.le_of_ble_eq_true rfl⟩ ⟨Nat.le_of_ble_eq_true rfl, Nat.le_of_ble_eq_true rfl⟩ (fun _ h => h) (fun H h => ⟨⟨_, h.1⟩, cm_toldMore19 hmb h hv hk⟩) ?_
  exact mw_iret X rfl rfl (fun H h => ⟨rfl, h⟩)
set_option maxHeartbeats 4000000 in
set_option maxRecDepth 20000 in
theorem cm_toldU {l : Launch} {Γ : mw_C} {mb : Nat} (hmb : Γ.2.2.2 ≤ mb) {W : Nat → Int32} {ρ : md_R} {H : Heap} {c : Nat} {x : Int32} (hH : md_I Γ mb W ρ H) (hv : iv c W) (hk : iv_k ρ) (hx : mo_bl x 20 = false) : mw_Cr l Γ mX5_told 4 0 0 (md_A mb) [.ref mb, .int x] H (some (.int oO)) (md_I Γ mb W ρ) := by
  refine mw_ofG (P := pX5_told) (by decide) (md_As hmb) oX5_told (Nat.le_of_ble_eq_true rfl) ?_
  intro pg e0 sg mg below meth cd X hs
  refine mw_pre (I' := md_I Γ mb W ρ) (fun H1 h1 => by rw [h1]; exact hH) ?_
  refine mw_steps X 1 (pc' := 1) (lv' := [(0, .ref mb), (1, .int x)]) (st' := [.int x]) rfl ?_
  refine mw_tsOut X 130 rfl (by have := ml_out (by omega) hx; omega) rfl ?_
  refine mw_steps X 2 (pc' := 132) (lv' := [(0, .ref mb), (1, .int x)]) (st' := [.int x, .ref mb]) rfl ?_
  refine mw_cV1r X kd_X5_toldMore kv_X5_toldMore kl_X5_139 (ci := 5) rfl rfl (Nat.le_of_ble_eq_true rfl) ⟨Nat.le_of_ble_eq_true rfl, Nat.le_of_ble_eq_true rfl⟩ ⟨Nat.le_of_ble_eq_true rfl, Nat.le_of_ble_eq_true rfl⟩ (fun _ h => h) (fun H h => ⟨⟨_, h.1⟩, cm_toldMore hmb h hv hk hx⟩) ?_
  exact mw_iret X rfl rfl (fun H h => ⟨rfl, h⟩)
theorem cm_told {l : Launch} {Γ : mw_C} {mb : Nat} (hmb : Γ.2.2.2 ≤ mb) {W : Nat → Int32} {ρ : md_R} {H : Heap} {c : Nat} {x : Int32} (hH : md_I Γ mb W ρ H) (hv : iv c W) (hk : iv_k ρ) : mw_Cr l Γ mX5_told 4 0 0 (md_A mb) [.ref mb, .int x] H (some (.int (op_told W ρ x))) (md_I Γ mb W ρ) := by
  unfold op_told
  cases hb : mo_bl x 20 with
  | false => rw [if_neg (by decide)]; exact cm_toldU hmb hH hv hk hb
  | true =>
    obtain ⟨j, hj, rfl⟩ := mo_bl_t hb (by omega)
    rw [if_pos rfl, ml_n (by omega)]
    match j, hj with
    | 0, _ => exact cm_told0 hmb hH hv hk
    | 1, _ => exact cm_told1 hmb hH hv hk
    | 2, _ => exact cm_told2 hmb hH hv hk
    | 3, _ => exact cm_told3 hmb hH hv hk
    | 4, _ => exact cm_told4 hmb hH hv hk
    | 5, _ => exact cm_told5 hmb hH hv hk
    | 6, _ => exact cm_told6 hmb hH hv hk
    | 7, _ => exact cm_told7 hmb hH hv hk
    | 8, _ => exact cm_told8 hmb hH hv hk
    | 9, _ => exact cm_told9 hmb hH hv hk
    | 10, _ => exact cm_told10 hmb hH hv hk
    | 11, _ => exact cm_told11 hmb hH hv hk
    | 12, _ => exact cm_told12 hmb hH hv hk
    | 13, _ => exact cm_told13 hmb hH hv hk
    | 14, _ => exact cm_told14 hmb hH hv hk
    | 15, _ => exact cm_told15 hmb hH hv hk
    | 16, _ => exact cm_told16 hmb hH hv hk
    | 17, _ => exact cm_told17 hmb hH hv hk
    | 18, _ => exact cm_told18 hmb hH hv hk
    | 19, _ => exact cm_told19 hmb hH hv hk
    | j + 20, hj => exact absurd hj (by omega)
set_option maxHeartbeats 4000000 in
set_option maxRecDepth 20000 in
theorem cm_end0 {l : Launch} {Γ : mw_C} {mb : Nat} (hmb : Γ.2.2.2 ≤ mb) {W : Nat → Int32} {ρ : md_R} {H : Heap} {c : Nat} {x : Int32} (hH : md_I Γ mb W ρ H) (hv : iv c W) : mw_Cr l Γ mX5_end 4 0 0 (md_A mb) [.ref mb, .int x, .int (nI 0)] H (some (.int (if mo_bl x 2 = true then an_end W (mo_n x) 0 else oU))) (md_I Γ mb W ρ) := by
  refine mw_ofG (P := pX5_end) (by decide) (md_As hmb) oX5_end (Nat.le_of_ble_eq_true rfl) ?_
  intro pg e0 sg mg below meth cd X hs
  refine mw_pre (I' := md_I Γ mb W ρ) (fun H1 h1 => by rw [h1]; exact hH) ?_
  refine mw_steps X 1 (pc' := 1) (lv' := [(0, .ref mb), (1, .int x), (2, .int (nI 0))]) (st' := [.int x]) rfl ?_
  refine mw_cS1r X kd_X5_isEnd ks_X5_isEnd kl_X5_144 rfl (Nat.le_of_ble_eq_true rfl) ⟨Nat.le_of_ble_eq_true rfl, Nat.le_of_ble_eq_true rfl⟩ ⟨Nat.le_of_ble_eq_true rfl, Nat.le_of_ble_eq_true rfl⟩ (fun _ h => h) (fun H h => cm_isEnd hmb h) ?_
  refine mw_if_ne X 10 rfl rfl (fun c4 => ?_) (fun c4 => ?_)
  · obtain ⟨e, hq, rfl⟩ := mo_bl_t (mo_b_nz c4) (by omega)
    refine mw_steps X 1 (pc' := 11) (lv' := [(0, .ref mb), (1, .int (nI e)), (2, .int (nI 0))]) (st' := [.int (nI 0)]) rfl ?_
    refine mw_tsIn X 0 rfl (by decide) 48 rfl (by decide) rfl rfl ?_
    refine mw_steps X 1 (pc' := 49) (lv' := [(0, .ref mb), (1, .int (nI e)), (2, .int (nI 0))]) (st' := [.ref mb]) rfl ?_
    refine mw_get X kf_X5_7.fl kc_5 rfl (v := .ref (mb + 1)) (fun H h => ⟨_, h.1, rfl⟩) ?_
    refine mw_steps X 3 (pc' := 56) (lv' := [(0, .ref mb), (1, .int (nI e)), (2, .int (nI 0))]) (st' := [.int ((nI 18) + (nI e)), .ref (mb + 1)]) rfl ?_
    refine mw_iald X (v := W (18 + e)) (18 + e) (by simp only [nI_add, pk_mul]) rfl (fun H h => ⟨_, _, h.2.1, by omega, by decide, rfl⟩) ?_
    exact mw_iret X rfl rfl (fun H h => ⟨by rw [if_pos (mo_bl_n hq (by omega)), ml_n (by omega)]; rfl, h⟩)
  · refine mw_ldc X kk_X5_147 rfl ?_
    exact mw_iret X rfl rfl (fun H h => ⟨by rw [if_neg (by rw [mo_b_z c4]; decide)], h⟩)
set_option maxHeartbeats 4000000 in
set_option maxRecDepth 20000 in
theorem cm_end1 {l : Launch} {Γ : mw_C} {mb : Nat} (hmb : Γ.2.2.2 ≤ mb) {W : Nat → Int32} {ρ : md_R} {H : Heap} {c : Nat} {x : Int32} (hH : md_I Γ mb W ρ H) (hv : iv c W) : mw_Cr l Γ mX5_end 4 0 0 (md_A mb) [.ref mb, .int x, .int (nI 1)] H (some (.int (if mo_bl x 2 = true then an_end W (mo_n x) 1 else oU))) (md_I Γ mb W ρ) := by
  refine mw_ofG (P := pX5_end) (by decide) (md_As hmb) oX5_end (Nat.le_of_ble_eq_true rfl) ?_
  intro pg e0 sg mg below meth cd X hs
  refine mw_pre (I' := md_I Γ mb W ρ) (fun H1 h1 => by rw [h1]; exact hH) ?_
  refine mw_steps X 1 (pc' := 1) (lv' := [(0, .ref mb), (1, .int x), (2, .int (nI 1))]) (st' := [.int x]) rfl ?_
  refine mw_cS1r X kd_X5_isEnd ks_X5_isEnd kl_X5_144 rfl (Nat.le_of_ble_eq_true rfl) ⟨Nat.le_of_ble_eq_true rfl, Nat.le_of_ble_eq_true rfl⟩ ⟨Nat.le_of_ble_eq_true rfl, Nat.le_of_ble_eq_true rfl⟩ (fun _ h => h) (fun H h => cm_isEnd hmb h) ?_
  refine mw_if_ne X 10 rfl rfl (fun c4 => ?_) (fun c4 => ?_)
  · obtain ⟨e, hq, rfl⟩ := mo_bl_t (mo_b_nz c4) (by omega)
    refine mw_steps X 1 (pc' := 11) (lv' := [(0, .ref mb), (1, .int (nI e)), (2, .int (nI 1))]) (st' := [.int (nI 1)]) rfl ?_
    refine mw_tsIn X 1 rfl (by decide) 58 rfl (by decide) rfl rfl ?_
    refine mw_steps X 2 (pc' := 60) (lv' := [(0, .ref mb), (1, .int (nI e)), (2, .int (nI 1))]) (st' := [.int (nI e), .ref mb]) rfl ?_
    refine mw_cV1r X kd_X5_manyHas kv_X5_manyHas kl_X5_148 (ci := 5) rfl rfl (Nat.le_of_ble_eq_true rfl) ⟨Nat.le_of_ble_eq_true rfl, Nat.le_of_ble_eq_true rfl⟩ ⟨Nat.le_of_ble_eq_true rfl, Nat.le_of_ble_eq_true rfl⟩ (fun _ h => h) (fun H h => ⟨⟨_, h.1⟩, cm_manyHas hmb h hv hq⟩) ?_
    exact mw_iret X rfl rfl (fun H h => ⟨by rw [if_pos (mo_bl_n hq (by omega)), ml_n (by omega)]; rfl, h⟩)
  · refine mw_ldc X kk_X5_147 rfl ?_
    exact mw_iret X rfl rfl (fun H h => ⟨by rw [if_neg (by rw [mo_b_z c4]; decide)], h⟩)
set_option maxHeartbeats 4000000 in
set_option maxRecDepth 20000 in
theorem cm_end2 {l : Launch} {Γ : mw_C} {mb : Nat} (hmb : Γ.2.2.2 ≤ mb) {W : Nat → Int32} {ρ : md_R} {H : Heap} {c : Nat} {x : Int32} (hH : md_I Γ mb W ρ H) (hv : iv c W) : mw_Cr l Γ mX5_end 4 0 0 (md_A mb) [.ref mb, .int x, .int (nI 2)] H (some (.int (if mo_bl x 2 = true then an_end W (mo_n x) 2 else oU))) (md_I Γ mb W ρ) := by
  refine mw_ofG (P := pX5_end) (by decide) (md_As hmb) oX5_end (Nat.le_of_ble_eq_true rfl) ?_
  intro pg e0 sg mg below meth cd X hs
  refine mw_pre (I' := md_I Γ mb W ρ) (fun H1 h1 => by rw [h1]; exact hH) ?_
  refine mw_steps X 1 (pc' := 1) (lv' := [(0, .ref mb), (1, .int x), (2, .int (nI 2))]) (st' := [.int x]) rfl ?_
  refine mw_cS1r X kd_X5_isEnd ks_X5_isEnd kl_X5_144 rfl (Nat.le_of_ble_eq_true rfl) ⟨Nat.le_of_ble_eq_true rfl, Nat.le_of_ble_eq_true rfl⟩ ⟨Nat.le_of_ble_eq_true rfl, Nat.le_of_ble_eq_true rfl⟩ (fun _ h => h) (fun H h => cm_isEnd hmb h) ?_
  refine mw_if_ne X 10 rfl rfl (fun c4 => ?_) (fun c4 => ?_)
  · obtain ⟨e, hq, rfl⟩ := mo_bl_t (mo_b_nz c4) (by omega)
    refine mw_steps X 1 (pc' := 11) (lv' := [(0, .ref mb), (1, .int (nI e)), (2, .int (nI 2))]) (st' := [.int (nI 2)]) rfl ?_
    refine mw_tsIn X 2 rfl (by decide) 64 rfl (by decide) rfl rfl ?_
    refine mw_steps X 2 (pc' := 66) (lv' := [(0, .ref mb), (1, .int (nI e)), (2, .int (nI 2))]) (st' := [.int (nI e), .ref mb]) rfl ?_
    refine mw_cV1r X kd_X5_inRow kv_X5_inRow kl_X5_58 (ci := 5) rfl rfl (Nat.le_of_ble_eq_true rfl) ⟨Nat.le_of_ble_eq_true rfl, Nat.le_of_ble_eq_true rfl⟩ ⟨Nat.le_of_ble_eq_true rfl, Nat.le_of_ble_eq_true rfl⟩ (fun _ h => h) (fun H h => ⟨⟨_, h.1⟩, cm_inRow hmb h hq⟩) ?_
    exact mw_iret X rfl rfl (fun H h => ⟨by rw [if_pos (mo_bl_n hq (by omega)), ml_n (by omega)]; rfl, h⟩)
  · refine mw_ldc X kk_X5_147 rfl ?_
    exact mw_iret X rfl rfl (fun H h => ⟨by rw [if_neg (by rw [mo_b_z c4]; decide)], h⟩)
set_option maxHeartbeats 4000000 in
set_option maxRecDepth 20000 in
theorem cm_end3 {l : Launch} {Γ : mw_C} {mb : Nat} (hmb : Γ.2.2.2 ≤ mb) {W : Nat → Int32} {ρ : md_R} {H : Heap} {c : Nat} {x : Int32} (hH : md_I Γ mb W ρ H) (hv : iv c W) : mw_Cr l Γ mX5_end 4 0 0 (md_A mb) [.ref mb, .int x, .int (nI 3)] H (some (.int (if mo_bl x 2 = true then an_end W (mo_n x) 3 else oU))) (md_I Γ mb W ρ) := by
  refine mw_ofG (P := pX5_end) (by decide) (md_As hmb) oX5_end (Nat.le_of_ble_eq_true rfl) ?_
  intro pg e0 sg mg below meth cd X hs
  refine mw_pre (I' := md_I Γ mb W ρ) (fun H1 h1 => by rw [h1]; exact hH) ?_
  refine mw_steps X 1 (pc' := 1) (lv' := [(0, .ref mb), (1, .int x), (2, .int (nI 3))]) (st' := [.int x]) rfl ?_
  refine mw_cS1r X kd_X5_isEnd ks_X5_isEnd kl_X5_144 rfl (Nat.le_of_ble_eq_true rfl) ⟨Nat.le_of_ble_eq_true rfl, Nat.le_of_ble_eq_true rfl⟩ ⟨Nat.le_of_ble_eq_true rfl, Nat.le_of_ble_eq_true rfl⟩ (fun _ h => h) (fun H h => cm_isEnd hmb h) ?_
  refine mw_if_ne X 10 rfl rfl (fun c4 => ?_) (fun c4 => ?_)
  · obtain ⟨e, hq, rfl⟩ := mo_bl_t (mo_b_nz c4) (by omega)
    refine mw_steps X 1 (pc' := 11) (lv' := [(0, .ref mb), (1, .int (nI e)), (2, .int (nI 3))]) (st' := [.int (nI 3)]) rfl ?_
    refine mw_tsIn X 3 rfl (by decide) 70 rfl (by decide) rfl rfl ?_
    refine mw_steps X 1 (pc' := 71) (lv' := [(0, .ref mb), (1, .int (nI e)), (2, .int (nI 3))]) (st' := [.ref mb]) rfl ?_
    refine mw_get X kf_X5_7.fl kc_5 rfl (v := .ref (mb + 1)) (fun H h => ⟨_, h.1, rfl⟩) ?_
    refine mw_steps X 3 (pc' := 78) (lv' := [(0, .ref mb), (1, .int (nI e)), (2, .int (nI 3))]) (st' := [.int ((nI 20) + (nI e)), .ref (mb + 1)]) rfl ?_
    refine mw_iald X (v := W (20 + e)) (20 + e) (by simp only [nI_add, pk_mul]) rfl (fun H h => ⟨_, _, h.2.1, by omega, by decide, rfl⟩) ?_
    exact mw_iret X rfl rfl (fun H h => ⟨by rw [if_pos (mo_bl_n hq (by omega)), ml_n (by omega)]; rfl, h⟩)
  · refine mw_ldc X kk_X5_147 rfl ?_
    exact mw_iret X rfl rfl (fun H h => ⟨by rw [if_neg (by rw [mo_b_z c4]; decide)], h⟩)
set_option maxHeartbeats 4000000 in
set_option maxRecDepth 20000 in
theorem cm_end4 {l : Launch} {Γ : mw_C} {mb : Nat} (hmb : Γ.2.2.2 ≤ mb) {W : Nat → Int32} {ρ : md_R} {H : Heap} {c : Nat} {x : Int32} (hH : md_I Γ mb W ρ H) (hv : iv c W) : mw_Cr l Γ mX5_end 4 0 0 (md_A mb) [.ref mb, .int x, .int (nI 4)] H (some (.int (if mo_bl x 2 = true then an_end W (mo_n x) 4 else oU))) (md_I Γ mb W ρ) := by
  refine mw_ofG (P := pX5_end) (by decide) (md_As hmb) oX5_end (Nat.le_of_ble_eq_true rfl) ?_
  intro pg e0 sg mg below meth cd X hs
  refine mw_pre (I' := md_I Γ mb W ρ) (fun H1 h1 => by rw [h1]; exact hH) ?_
  refine mw_steps X 1 (pc' := 1) (lv' := [(0, .ref mb), (1, .int x), (2, .int (nI 4))]) (st' := [.int x]) rfl ?_
  refine mw_cS1r X kd_X5_isEnd ks_X5_isEnd kl_X5_144 rfl (Nat.le_of_ble_eq_true rfl) ⟨Nat.le_of_ble_eq_true rfl, Nat.le_of_ble_eq_true rfl⟩ ⟨Nat.le_of_ble_eq_true rfl, Nat.le_of_ble_eq_true rfl⟩ (fun _ h => h) (fun H h => cm_isEnd hmb h) ?_
  refine mw_if_ne X 10 rfl rfl (fun c4 => ?_) (fun c4 => ?_)
  · obtain ⟨e, hq, rfl⟩ := mo_bl_t (mo_b_nz c4) (by omega)
    refine mw_steps X 1 (pc' := 11) (lv' := [(0, .ref mb), (1, .int (nI e)), (2, .int (nI 4))]) (st' := [.int (nI 4)]) rfl ?_
    refine mw_tsIn X 4 rfl (by decide) 80 rfl (by decide) rfl rfl ?_
    refine mw_steps X 1 (pc' := 81) (lv' := [(0, .ref mb), (1, .int (nI e)), (2, .int (nI 4))]) (st' := [.ref mb]) rfl ?_
    refine mw_get X kf_X5_7.fl kc_5 rfl (v := .ref (mb + 1)) (fun H h => ⟨_, h.1, rfl⟩) ?_
    refine mw_steps X 3 (pc' := 88) (lv' := [(0, .ref mb), (1, .int (nI e)), (2, .int (nI 4))]) (st' := [.int ((nI 14) + (nI e)), .ref (mb + 1)]) rfl ?_
    refine mw_iald X (v := W (14 + e)) (14 + e) (by simp only [nI_add, pk_mul]) rfl (fun H h => ⟨_, _, h.2.1, by omega, by decide, rfl⟩) ?_
    exact mw_iret X rfl rfl (fun H h => ⟨by rw [if_pos (mo_bl_n hq (by omega)), ml_n (by omega)]; rfl, h⟩)
  · refine mw_ldc X kk_X5_147 rfl ?_
    exact mw_iret X rfl rfl (fun H h => ⟨by rw [if_neg (by rw [mo_b_z c4]; decide)], h⟩)
set_option maxHeartbeats 4000000 in
set_option maxRecDepth 20000 in
theorem cm_end5 {l : Launch} {Γ : mw_C} {mb : Nat} (hmb : Γ.2.2.2 ≤ mb) {W : Nat → Int32} {ρ : md_R} {H : Heap} {c : Nat} {x : Int32} (hH : md_I Γ mb W ρ H) (hv : iv c W) : mw_Cr l Γ mX5_end 4 0 0 (md_A mb) [.ref mb, .int x, .int (nI 5)] H (some (.int (if mo_bl x 2 = true then an_end W (mo_n x) 5 else oU))) (md_I Γ mb W ρ) := by
  refine mw_ofG (P := pX5_end) (by decide) (md_As hmb) oX5_end (Nat.le_of_ble_eq_true rfl) ?_
  intro pg e0 sg mg below meth cd X hs
  refine mw_pre (I' := md_I Γ mb W ρ) (fun H1 h1 => by rw [h1]; exact hH) ?_
  refine mw_steps X 1 (pc' := 1) (lv' := [(0, .ref mb), (1, .int x), (2, .int (nI 5))]) (st' := [.int x]) rfl ?_
  refine mw_cS1r X kd_X5_isEnd ks_X5_isEnd kl_X5_144 rfl (Nat.le_of_ble_eq_true rfl) ⟨Nat.le_of_ble_eq_true rfl, Nat.le_of_ble_eq_true rfl⟩ ⟨Nat.le_of_ble_eq_true rfl, Nat.le_of_ble_eq_true rfl⟩ (fun _ h => h) (fun H h => cm_isEnd hmb h) ?_
  refine mw_if_ne X 10 rfl rfl (fun c4 => ?_) (fun c4 => ?_)
  · obtain ⟨e, hq, rfl⟩ := mo_bl_t (mo_b_nz c4) (by omega)
    refine mw_steps X 1 (pc' := 11) (lv' := [(0, .ref mb), (1, .int (nI e)), (2, .int (nI 5))]) (st' := [.int (nI 5)]) rfl ?_
    refine mw_tsIn X 5 rfl (by decide) 90 rfl (by decide) rfl rfl ?_
    refine mw_steps X 1 (pc' := 91) (lv' := [(0, .ref mb), (1, .int (nI e)), (2, .int (nI 5))]) (st' := [.ref mb]) rfl ?_
    refine mw_get X kf_X5_7.fl kc_5 rfl (v := .ref (mb + 1)) (fun H h => ⟨_, h.1, rfl⟩) ?_
    refine mw_steps X 3 (pc' := 98) (lv' := [(0, .ref mb), (1, .int (nI e)), (2, .int (nI 5))]) (st' := [.int ((nI 16) + (nI e)), .ref (mb + 1)]) rfl ?_
    refine mw_iald X (v := W (16 + e)) (16 + e) (by simp only [nI_add, pk_mul]) rfl (fun H h => ⟨_, _, h.2.1, by omega, by decide, rfl⟩) ?_
    exact mw_iret X rfl rfl (fun H h => ⟨by rw [if_pos (mo_bl_n hq (by omega)), ml_n (by omega)]; rfl, h⟩)
  · refine mw_ldc X kk_X5_147 rfl ?_
    exact mw_iret X rfl rfl (fun H h => ⟨by rw [if_neg (by rw [mo_b_z c4]; decide)], h⟩)
set_option maxHeartbeats 4000000 in
set_option maxRecDepth 20000 in
theorem cm_endU {l : Launch} {Γ : mw_C} {mb : Nat} (hmb : Γ.2.2.2 ≤ mb) {W : Nat → Int32} {ρ : md_R} {H : Heap} {c : Nat} {x y : Int32} (hH : md_I Γ mb W ρ H) (hv : iv c W) (hy : mo_bl y 6 = false) : mw_Cr l Γ mX5_end 4 0 0 (md_A mb) [.ref mb, .int x, .int y] H (some (.int (if mo_bl x 2 = true then oO else oU))) (md_I Γ mb W ρ) := by
  refine mw_ofG (P := pX5_end) (by decide) (md_As hmb) oX5_end (Nat.le_of_ble_eq_true rfl) ?_
  intro pg e0 sg mg below meth cd X hs
  refine mw_pre (I' := md_I Γ mb W ρ) (fun H1 h1 => by rw [h1]; exact hH) ?_
  refine mw_steps X 1 (pc' := 1) (lv' := [(0, .ref mb), (1, .int x), (2, .int y)]) (st' := [.int x]) rfl ?_
  refine mw_cS1r X kd_X5_isEnd ks_X5_isEnd kl_X5_144 rfl (Nat.le_of_ble_eq_true rfl) ⟨Nat.le_of_ble_eq_true rfl, Nat.le_of_ble_eq_true rfl⟩ ⟨Nat.le_of_ble_eq_true rfl, Nat.le_of_ble_eq_true rfl⟩ (fun _ h => h) (fun H h => cm_isEnd hmb h) ?_
  refine mw_if_ne X 10 rfl rfl (fun c4 => ?_) (fun c4 => ?_)
  · obtain ⟨e, hq, rfl⟩ := mo_bl_t (mo_b_nz c4) (by omega)
    refine mw_steps X 1 (pc' := 11) (lv' := [(0, .ref mb), (1, .int (nI e)), (2, .int y)]) (st' := [.int y]) rfl ?_
    refine mw_tsOut X 100 rfl (by have := ml_out (by omega) hy; omega) rfl ?_
    refine mw_ldc X kk_X5_138 rfl ?_
    exact mw_iret X rfl rfl (fun H h => ⟨by rw [if_pos (mo_bl_n hq (by omega))], h⟩)
  · refine mw_ldc X kk_X5_147 rfl ?_
    exact mw_iret X rfl rfl (fun H h => ⟨by rw [if_neg (by rw [mo_b_z c4]; decide)], h⟩)
theorem cm_end {l : Launch} {Γ : mw_C} {mb : Nat} (hmb : Γ.2.2.2 ≤ mb) {W : Nat → Int32} {ρ : md_R} {H : Heap} {c : Nat} {x y : Int32} (hH : md_I Γ mb W ρ H) (hv : iv c W) : mw_Cr l Γ mX5_end 4 0 0 (md_A mb) [.ref mb, .int x, .int y] H (some (.int (op_end W x y))) (md_I Γ mb W ρ) := by
  unfold op_end
  cases hb : mo_bl y 6 with
  | false => rw [if_neg (show ¬ (false = true) by decide)]; exact cm_endU hmb hH hv hb
  | true =>
    obtain ⟨j, hj, rfl⟩ := mo_bl_t hb (by omega)
    rw [if_pos rfl, ml_n (show j ≤ 100000 by omega)]
    match j, hj with
    | 0, _ => exact cm_end0 hmb hH hv
    | 1, _ => exact cm_end1 hmb hH hv
    | 2, _ => exact cm_end2 hmb hH hv
    | 3, _ => exact cm_end3 hmb hH hv
    | 4, _ => exact cm_end4 hmb hH hv
    | 5, _ => exact cm_end5 hmb hH hv
    | j + 6, hj => exact absurd hj (by omega)
set_option maxHeartbeats 4000000 in
set_option maxRecDepth 20000 in
theorem cm_place0 {l : Launch} {Γ : mw_C} {mb : Nat} (hmb : Γ.2.2.2 ≤ mb) {W : Nat → Int32} {ρ : md_R} {H : Heap} {c : Nat} {x : Int32} (hH : md_I Γ mb W ρ H) (hv : iv c W) : mw_Cr l Γ mX5_place 4 0 0 (md_A mb) [.ref mb, .int x, .int (nI 0)] H (some (.int (if mo_bl x 5 = true then an_place W (mo_n x) 0 else oU))) (md_I Γ mb W ρ) := by
  refine mw_ofG (P := pX5_place) (by decide) (md_As hmb) oX5_place (Nat.le_of_ble_eq_true rfl) ?_
  intro pg e0 sg mg below meth cd X hs
  refine mw_pre (I' := md_I Γ mb W ρ) (fun H1 h1 => by rw [h1]; exact hH) ?_
  refine mw_steps X 1 (pc' := 1) (lv' := [(0, .ref mb), (1, .int x), (2, .int (nI 0))]) (st' := [.int x]) rfl ?_
  refine mw_cS1r X kd_X5_isPlace ks_X5_isPlace kl_X5_151 rfl (Nat.le_of_ble_eq_true rfl) ⟨Nat.le_of_ble_eq_true rfl, Nat.le_of_ble_eq_true rfl⟩ ⟨Nat.le_of_ble_eq_true rfl, Nat.le_of_ble_eq_true rfl⟩ (fun _ h => h) (fun H h => cm_isPlace hmb h) ?_
  refine mw_if_ne X 10 rfl rfl (fun c4 => ?_) (fun c4 => ?_)
  · obtain ⟨p, hq, rfl⟩ := mo_bl_t (mo_b_nz c4) (by omega)
    refine mw_steps X 1 (pc' := 11) (lv' := [(0, .ref mb), (1, .int (nI p)), (2, .int (nI 0))]) (st' := [.int (nI 0)]) rfl ?_
    refine mw_tsIn X 0 rfl (by decide) 48 rfl (by decide) rfl rfl ?_
    refine mw_steps X 1 (pc' := 49) (lv' := [(0, .ref mb), (1, .int (nI p)), (2, .int (nI 0))]) (st' := [.ref mb]) rfl ?_
    refine mw_get X kf_X5_7.fl kc_5 rfl (v := .ref (mb + 1)) (fun H h => ⟨_, h.1, rfl⟩) ?_
    refine mw_steps X 3 (pc' := 56) (lv' := [(0, .ref mb), (1, .int (nI p)), (2, .int (nI 0))]) (st' := [.int ((nI 22) + (nI p)), .ref (mb + 1)]) rfl ?_
    refine mw_iald X (v := W (22 + p)) (22 + p) (by simp only [nI_add, pk_mul]) rfl (fun H h => ⟨_, _, h.2.1, by omega, by decide, rfl⟩) ?_
    exact mw_iret X rfl rfl (fun H h => ⟨by rw [if_pos (mo_bl_n hq (by omega)), ml_n (by omega)]; rfl, h⟩)
  · refine mw_ldc X kk_X5_147 rfl ?_
    exact mw_iret X rfl rfl (fun H h => ⟨by rw [if_neg (by rw [mo_b_z c4]; decide)], h⟩)
set_option maxHeartbeats 4000000 in
set_option maxRecDepth 20000 in
theorem cm_place1 {l : Launch} {Γ : mw_C} {mb : Nat} (hmb : Γ.2.2.2 ≤ mb) {W : Nat → Int32} {ρ : md_R} {H : Heap} {c : Nat} {x : Int32} (hH : md_I Γ mb W ρ H) (hv : iv c W) : mw_Cr l Γ mX5_place 4 0 0 (md_A mb) [.ref mb, .int x, .int (nI 1)] H (some (.int (if mo_bl x 5 = true then an_place W (mo_n x) 1 else oU))) (md_I Γ mb W ρ) := by
  refine mw_ofG (P := pX5_place) (by decide) (md_As hmb) oX5_place (Nat.le_of_ble_eq_true rfl) ?_
  intro pg e0 sg mg below meth cd X hs
  refine mw_pre (I' := md_I Γ mb W ρ) (fun H1 h1 => by rw [h1]; exact hH) ?_
  refine mw_steps X 1 (pc' := 1) (lv' := [(0, .ref mb), (1, .int x), (2, .int (nI 1))]) (st' := [.int x]) rfl ?_
  refine mw_cS1r X kd_X5_isPlace ks_X5_isPlace kl_X5_151 rfl (Nat.le_of_ble_eq_true rfl) ⟨Nat.le_of_ble_eq_true rfl, Nat.le_of_ble_eq_true rfl⟩ ⟨Nat.le_of_ble_eq_true rfl, Nat.le_of_ble_eq_true rfl⟩ (fun _ h => h) (fun H h => cm_isPlace hmb h) ?_
  refine mw_if_ne X 10 rfl rfl (fun c4 => ?_) (fun c4 => ?_)
  · obtain ⟨p, hq, rfl⟩ := mo_bl_t (mo_b_nz c4) (by omega)
    refine mw_steps X 1 (pc' := 11) (lv' := [(0, .ref mb), (1, .int (nI p)), (2, .int (nI 1))]) (st' := [.int (nI 1)]) rfl ?_
    refine mw_tsIn X 1 rfl (by decide) 58 rfl (by decide) rfl rfl ?_
    refine mw_steps X 1 (pc' := 59) (lv' := [(0, .ref mb), (1, .int (nI p)), (2, .int (nI 1))]) (st' := [.ref mb]) rfl ?_
    refine mw_get X kf_X5_7.fl kc_5 rfl (v := .ref (mb + 1)) (fun H h => ⟨_, h.1, rfl⟩) ?_
    refine mw_steps X 3 (pc' := 66) (lv' := [(0, .ref mb), (1, .int (nI p)), (2, .int (nI 1))]) (st' := [.int ((nI 27) + (nI p)), .ref (mb + 1)]) rfl ?_
    refine mw_iald X (v := W (27 + p)) (27 + p) (by simp only [nI_add, pk_mul]) rfl (fun H h => ⟨_, _, h.2.1, by omega, by decide, rfl⟩) ?_
    exact mw_iret X rfl rfl (fun H h => ⟨by rw [if_pos (mo_bl_n hq (by omega)), ml_n (by omega)]; rfl, h⟩)
  · refine mw_ldc X kk_X5_147 rfl ?_
    exact mw_iret X rfl rfl (fun H h => ⟨by rw [if_neg (by rw [mo_b_z c4]; decide)], h⟩)
set_option maxHeartbeats 4000000 in
set_option maxRecDepth 20000 in
theorem cm_place2 {l : Launch} {Γ : mw_C} {mb : Nat} (hmb : Γ.2.2.2 ≤ mb) {W : Nat → Int32} {ρ : md_R} {H : Heap} {c : Nat} {x : Int32} (hH : md_I Γ mb W ρ H) (hv : iv c W) : mw_Cr l Γ mX5_place 4 0 0 (md_A mb) [.ref mb, .int x, .int (nI 2)] H (some (.int (if mo_bl x 5 = true then an_place W (mo_n x) 2 else oU))) (md_I Γ mb W ρ) := by
  refine mw_ofG (P := pX5_place) (by decide) (md_As hmb) oX5_place (Nat.le_of_ble_eq_true rfl) ?_
  intro pg e0 sg mg below meth cd X hs
  refine mw_pre (I' := md_I Γ mb W ρ) (fun H1 h1 => by rw [h1]; exact hH) ?_
  refine mw_steps X 1 (pc' := 1) (lv' := [(0, .ref mb), (1, .int x), (2, .int (nI 2))]) (st' := [.int x]) rfl ?_
  refine mw_cS1r X kd_X5_isPlace ks_X5_isPlace kl_X5_151 rfl (Nat.le_of_ble_eq_true rfl) ⟨Nat.le_of_ble_eq_true rfl, Nat.le_of_ble_eq_true rfl⟩ ⟨Nat.le_of_ble_eq_true rfl, Nat.le_of_ble_eq_true rfl⟩ (fun _ h => h) (fun H h => cm_isPlace hmb h) ?_
  refine mw_if_ne X 10 rfl rfl (fun c4 => ?_) (fun c4 => ?_)
  · obtain ⟨p, hq, rfl⟩ := mo_bl_t (mo_b_nz c4) (by omega)
    refine mw_steps X 1 (pc' := 11) (lv' := [(0, .ref mb), (1, .int (nI p)), (2, .int (nI 2))]) (st' := [.int (nI 2)]) rfl ?_
    refine mw_tsIn X 2 rfl (by decide) 68 rfl (by decide) rfl rfl ?_
    refine mw_steps X 1 (pc' := 69) (lv' := [(0, .ref mb), (1, .int (nI p)), (2, .int (nI 2))]) (st' := [.ref mb]) rfl ?_
    refine mw_get X kf_X5_7.fl kc_5 rfl (v := .ref (mb + 1)) (fun H h => ⟨_, h.1, rfl⟩) ?_
    refine mw_steps X 3 (pc' := 76) (lv' := [(0, .ref mb), (1, .int (nI p)), (2, .int (nI 2))]) (st' := [.int ((nI 32) + (nI p)), .ref (mb + 1)]) rfl ?_
    refine mw_iald X (v := W (32 + p)) (32 + p) (by simp only [nI_add, pk_mul]) rfl (fun H h => ⟨_, _, h.2.1, by omega, by decide, rfl⟩) ?_
    exact mw_iret X rfl rfl (fun H h => ⟨by rw [if_pos (mo_bl_n hq (by omega)), ml_n (by omega)]; rfl, h⟩)
  · refine mw_ldc X kk_X5_147 rfl ?_
    exact mw_iret X rfl rfl (fun H h => ⟨by rw [if_neg (by rw [mo_b_z c4]; decide)], h⟩)
set_option maxHeartbeats 4000000 in
set_option maxRecDepth 20000 in
theorem cm_place3 {l : Launch} {Γ : mw_C} {mb : Nat} (hmb : Γ.2.2.2 ≤ mb) {W : Nat → Int32} {ρ : md_R} {H : Heap} {c : Nat} {x : Int32} (hH : md_I Γ mb W ρ H) (hv : iv c W) : mw_Cr l Γ mX5_place 4 0 0 (md_A mb) [.ref mb, .int x, .int (nI 3)] H (some (.int (if mo_bl x 5 = true then an_place W (mo_n x) 3 else oU))) (md_I Γ mb W ρ) := by
  refine mw_ofG (P := pX5_place) (by decide) (md_As hmb) oX5_place (Nat.le_of_ble_eq_true rfl) ?_
  intro pg e0 sg mg below meth cd X hs
  refine mw_pre (I' := md_I Γ mb W ρ) (fun H1 h1 => by rw [h1]; exact hH) ?_
  refine mw_steps X 1 (pc' := 1) (lv' := [(0, .ref mb), (1, .int x), (2, .int (nI 3))]) (st' := [.int x]) rfl ?_
  refine mw_cS1r X kd_X5_isPlace ks_X5_isPlace kl_X5_151 rfl (Nat.le_of_ble_eq_true rfl) ⟨Nat.le_of_ble_eq_true rfl, Nat.le_of_ble_eq_true rfl⟩ ⟨Nat.le_of_ble_eq_true rfl, Nat.le_of_ble_eq_true rfl⟩ (fun _ h => h) (fun H h => cm_isPlace hmb h) ?_
  refine mw_if_ne X 10 rfl rfl (fun c4 => ?_) (fun c4 => ?_)
  · obtain ⟨p, hq, rfl⟩ := mo_bl_t (mo_b_nz c4) (by omega)
    refine mw_steps X 1 (pc' := 11) (lv' := [(0, .ref mb), (1, .int (nI p)), (2, .int (nI 3))]) (st' := [.int (nI 3)]) rfl ?_
    refine mw_tsIn X 3 rfl (by decide) 78 rfl (by decide) rfl rfl ?_
    refine mw_steps X 1 (pc' := 79) (lv' := [(0, .ref mb), (1, .int (nI p)), (2, .int (nI 3))]) (st' := [.ref mb]) rfl ?_
    refine mw_get X kf_X5_7.fl kc_5 rfl (v := .ref (mb + 1)) (fun H h => ⟨_, h.1, rfl⟩) ?_
    refine mw_steps X 3 (pc' := 86) (lv' := [(0, .ref mb), (1, .int (nI p)), (2, .int (nI 3))]) (st' := [.int ((nI 37) + (nI p)), .ref (mb + 1)]) rfl ?_
    refine mw_iald X (v := W (37 + p)) (37 + p) (by simp only [nI_add, pk_mul]) rfl (fun H h => ⟨_, _, h.2.1, by omega, by decide, rfl⟩) ?_
    exact mw_iret X rfl rfl (fun H h => ⟨by rw [if_pos (mo_bl_n hq (by omega)), ml_n (by omega)]; rfl, h⟩)
  · refine mw_ldc X kk_X5_147 rfl ?_
    exact mw_iret X rfl rfl (fun H h => ⟨by rw [if_neg (by rw [mo_b_z c4]; decide)], h⟩)
set_option maxHeartbeats 4000000 in
set_option maxRecDepth 20000 in
theorem cm_place4 {l : Launch} {Γ : mw_C} {mb : Nat} (hmb : Γ.2.2.2 ≤ mb) {W : Nat → Int32} {ρ : md_R} {H : Heap} {c : Nat} {x : Int32} (hH : md_I Γ mb W ρ H) (hv : iv c W) : mw_Cr l Γ mX5_place 4 0 0 (md_A mb) [.ref mb, .int x, .int (nI 4)] H (some (.int (if mo_bl x 5 = true then an_place W (mo_n x) 4 else oU))) (md_I Γ mb W ρ) := by
  refine mw_ofG (P := pX5_place) (by decide) (md_As hmb) oX5_place (Nat.le_of_ble_eq_true rfl) ?_
  intro pg e0 sg mg below meth cd X hs
  refine mw_pre (I' := md_I Γ mb W ρ) (fun H1 h1 => by rw [h1]; exact hH) ?_
  refine mw_steps X 1 (pc' := 1) (lv' := [(0, .ref mb), (1, .int x), (2, .int (nI 4))]) (st' := [.int x]) rfl ?_
  refine mw_cS1r X kd_X5_isPlace ks_X5_isPlace kl_X5_151 rfl (Nat.le_of_ble_eq_true rfl) ⟨Nat.le_of_ble_eq_true rfl, Nat.le_of_ble_eq_true rfl⟩ ⟨Nat.le_of_ble_eq_true rfl, Nat.le_of_ble_eq_true rfl⟩ (fun _ h => h) (fun H h => cm_isPlace hmb h) ?_
  refine mw_if_ne X 10 rfl rfl (fun c4 => ?_) (fun c4 => ?_)
  · obtain ⟨p, hq, rfl⟩ := mo_bl_t (mo_b_nz c4) (by omega)
    refine mw_steps X 1 (pc' := 11) (lv' := [(0, .ref mb), (1, .int (nI p)), (2, .int (nI 4))]) (st' := [.int (nI 4)]) rfl ?_
    refine mw_tsIn X 4 rfl (by decide) 88 rfl (by decide) rfl rfl ?_
    refine mw_steps X 1 (pc' := 89) (lv' := [(0, .ref mb), (1, .int (nI p)), (2, .int (nI 4))]) (st' := [.ref mb]) rfl ?_
    refine mw_get X kf_X5_7.fl kc_5 rfl (v := .ref (mb + 1)) (fun H h => ⟨_, h.1, rfl⟩) ?_
    refine mw_steps X 3 (pc' := 96) (lv' := [(0, .ref mb), (1, .int (nI p)), (2, .int (nI 4))]) (st' := [.int ((nI 42) + (nI p)), .ref (mb + 1)]) rfl ?_
    refine mw_iald X (v := W (42 + p)) (42 + p) (by simp only [nI_add, pk_mul]) rfl (fun H h => ⟨_, _, h.2.1, by omega, by decide, rfl⟩) ?_
    exact mw_iret X rfl rfl (fun H h => ⟨by rw [if_pos (mo_bl_n hq (by omega)), ml_n (by omega)]; rfl, h⟩)
  · refine mw_ldc X kk_X5_147 rfl ?_
    exact mw_iret X rfl rfl (fun H h => ⟨by rw [if_neg (by rw [mo_b_z c4]; decide)], h⟩)
set_option maxHeartbeats 4000000 in
set_option maxRecDepth 20000 in
theorem cm_place5 {l : Launch} {Γ : mw_C} {mb : Nat} (hmb : Γ.2.2.2 ≤ mb) {W : Nat → Int32} {ρ : md_R} {H : Heap} {c : Nat} {x : Int32} (hH : md_I Γ mb W ρ H) (hv : iv c W) : mw_Cr l Γ mX5_place 4 0 0 (md_A mb) [.ref mb, .int x, .int (nI 5)] H (some (.int (if mo_bl x 5 = true then an_place W (mo_n x) 5 else oU))) (md_I Γ mb W ρ) := by
  refine mw_ofG (P := pX5_place) (by decide) (md_As hmb) oX5_place (Nat.le_of_ble_eq_true rfl) ?_
  intro pg e0 sg mg below meth cd X hs
  refine mw_pre (I' := md_I Γ mb W ρ) (fun H1 h1 => by rw [h1]; exact hH) ?_
  refine mw_steps X 1 (pc' := 1) (lv' := [(0, .ref mb), (1, .int x), (2, .int (nI 5))]) (st' := [.int x]) rfl ?_
  refine mw_cS1r X kd_X5_isPlace ks_X5_isPlace kl_X5_151 rfl (Nat.le_of_ble_eq_true rfl) ⟨Nat.le_of_ble_eq_true rfl, Nat.le_of_ble_eq_true rfl⟩ ⟨Nat.le_of_ble_eq_true rfl, Nat.le_of_ble_eq_true rfl⟩ (fun _ h => h) (fun H h => cm_isPlace hmb h) ?_
  refine mw_if_ne X 10 rfl rfl (fun c4 => ?_) (fun c4 => ?_)
  · obtain ⟨p, hq, rfl⟩ := mo_bl_t (mo_b_nz c4) (by omega)
    refine mw_steps X 1 (pc' := 11) (lv' := [(0, .ref mb), (1, .int (nI p)), (2, .int (nI 5))]) (st' := [.int (nI 5)]) rfl ?_
    refine mw_tsIn X 5 rfl (by decide) 98 rfl (by decide) rfl rfl ?_
    refine mw_steps X 2 (pc' := 100) (lv' := [(0, .ref mb), (1, .int (nI p)), (2, .int (nI 5))]) (st' := [.int (nI p), .ref mb]) rfl ?_
    refine mw_cV1r X kd_X5_heldFor kv_X5_heldFor kl_X5_154 (ci := 5) rfl rfl (Nat.le_of_ble_eq_true rfl) ⟨Nat.le_of_ble_eq_true rfl, Nat.le_of_ble_eq_true rfl⟩ ⟨Nat.le_of_ble_eq_true rfl, Nat.le_of_ble_eq_true rfl⟩ (fun _ h => h) (fun H h => ⟨⟨_, h.1⟩, cm_heldFor hmb h (p := p) (ml_i12 hv.1) (ml_n12 hv.1)⟩) ?_
    exact mw_iret X rfl rfl (fun H h => ⟨by rw [if_pos (mo_bl_n hq (by omega)), ml_n (by omega)]; rfl, h⟩)
  · refine mw_ldc X kk_X5_147 rfl ?_
    exact mw_iret X rfl rfl (fun H h => ⟨by rw [if_neg (by rw [mo_b_z c4]; decide)], h⟩)
set_option maxHeartbeats 4000000 in
set_option maxRecDepth 20000 in
theorem cm_placeU {l : Launch} {Γ : mw_C} {mb : Nat} (hmb : Γ.2.2.2 ≤ mb) {W : Nat → Int32} {ρ : md_R} {H : Heap} {c : Nat} {x y : Int32} (hH : md_I Γ mb W ρ H) (hv : iv c W) (hy : mo_bl y 6 = false) : mw_Cr l Γ mX5_place 4 0 0 (md_A mb) [.ref mb, .int x, .int y] H (some (.int (if mo_bl x 5 = true then oO else oU))) (md_I Γ mb W ρ) := by
  refine mw_ofG (P := pX5_place) (by decide) (md_As hmb) oX5_place (Nat.le_of_ble_eq_true rfl) ?_
  intro pg e0 sg mg below meth cd X hs
  refine mw_pre (I' := md_I Γ mb W ρ) (fun H1 h1 => by rw [h1]; exact hH) ?_
  refine mw_steps X 1 (pc' := 1) (lv' := [(0, .ref mb), (1, .int x), (2, .int y)]) (st' := [.int x]) rfl ?_
  refine mw_cS1r X kd_X5_isPlace ks_X5_isPlace kl_X5_151 rfl (Nat.le_of_ble_eq_true rfl) ⟨Nat.le_of_ble_eq_true rfl, Nat.le_of_ble_eq_true rfl⟩ ⟨Nat.le_of_ble_eq_true rfl, Nat.le_of_ble_eq_true rfl⟩ (fun _ h => h) (fun H h => cm_isPlace hmb h) ?_
  refine mw_if_ne X 10 rfl rfl (fun c4 => ?_) (fun c4 => ?_)
  · obtain ⟨p, hq, rfl⟩ := mo_bl_t (mo_b_nz c4) (by omega)
    refine mw_steps X 1 (pc' := 11) (lv' := [(0, .ref mb), (1, .int (nI p)), (2, .int y)]) (st' := [.int y]) rfl ?_
    refine mw_tsOut X 104 rfl (by have := ml_out (by omega) hy; omega) rfl ?_
    refine mw_ldc X kk_X5_138 rfl ?_
    exact mw_iret X rfl rfl (fun H h => ⟨by rw [if_pos (mo_bl_n hq (by omega))], h⟩)
  · refine mw_ldc X kk_X5_147 rfl ?_
    exact mw_iret X rfl rfl (fun H h => ⟨by rw [if_neg (by rw [mo_b_z c4]; decide)], h⟩)
theorem cm_place {l : Launch} {Γ : mw_C} {mb : Nat} (hmb : Γ.2.2.2 ≤ mb) {W : Nat → Int32} {ρ : md_R} {H : Heap} {c : Nat} {x y : Int32} (hH : md_I Γ mb W ρ H) (hv : iv c W) : mw_Cr l Γ mX5_place 4 0 0 (md_A mb) [.ref mb, .int x, .int y] H (some (.int (op_place W x y))) (md_I Γ mb W ρ) := by
  unfold op_place
  cases hb : mo_bl y 6 with
  | false => rw [if_neg (show ¬ (false = true) by decide)]; exact cm_placeU hmb hH hv hb
  | true =>
    obtain ⟨j, hj, rfl⟩ := mo_bl_t hb (by omega)
    rw [if_pos rfl, ml_n (show j ≤ 100000 by omega)]
    match j, hj with
    | 0, _ => exact cm_place0 hmb hH hv
    | 1, _ => exact cm_place1 hmb hH hv
    | 2, _ => exact cm_place2 hmb hH hv
    | 3, _ => exact cm_place3 hmb hH hv
    | 4, _ => exact cm_place4 hmb hH hv
    | 5, _ => exact cm_place5 hmb hH hv
    | j + 6, hj => exact absurd hj (by omega)
set_option maxHeartbeats 4000000 in
set_option maxRecDepth 20000 in
theorem cm_letter {l : Launch} {Γ : mw_C} {mb : Nat} (hmb : Γ.2.2.2 ≤ mb) {W : Nat → Int32} {ρ : md_R} {H : Heap} {c : Nat} {x y : Int32} (hH : md_I Γ mb W ρ H) (hv : iv c W) : mw_Cr l Γ mX5_letter 2 0 0 (md_A mb) [.ref mb, .int x, .int y] H (some (.int (op_letter W x y))) (md_I Γ mb W ρ) := by
  have hn := ml_i11 hv.1
  have hn2 := ml_n24 hv.1
  refine mw_ofG (P := pX5_letter) (by decide) (md_As hmb) oX5_letter (Nat.le_of_ble_eq_true rfl) ?_
  intro pg e0 sg mg below meth cd X hs
  refine mw_pre (I' := md_I Γ mb W ρ) (fun H1 h1 => by rw [h1]; exact hH) ?_
  refine mw_steps X 4 (pc' := 4) (lv' := [(0, .ref mb), (1, .int x), (2, .int y)]) (st' := [.ref mb, .long 0, .long x.toInt64]) rfl ?_
  refine mw_get X kf_X5_7.fl kc_5 rfl (v := .ref (mb + 1)) (fun H h => ⟨_, h.1, rfl⟩) ?_
  refine mw_steps X 1 (pc' := 9) (lv' := [(0, .ref mb), (1, .int x), (2, .int y)]) (st' := [.int (nI 11), .ref (mb + 1), .long 0, .long x.toInt64]) rfl ?_
  refine mw_iald X (v := nI (mo_n (W 11))) (11) rfl rfl (fun H h => ⟨_, _, h.2.1, by omega, by decide, hn⟩) ?_
  refine mw_steps X 3 (pc' := 13) (lv' := [(0, .ref mb), (1, .int x), (2, .int y)]) (st' := [.long (((nI (mo_n (W 11))) - (nI 1)).toInt64), .long 0, .long x.toInt64]) rfl ?_
  refine mw_cS3r X kd_X5_in ks_X5_in kl_X5_68 rfl (Nat.le_of_ble_eq_true rfl) ⟨Nat.le_of_ble_eq_true rfl, Nat.le_of_ble_eq_true rfl⟩ ⟨Nat.le_of_ble_eq_true rfl, Nat.le_of_ble_eq_true rfl⟩ (fun _ h => h) (fun H h => cm_in hmb h) ?_
  rw [show mo_in x.toInt64 0 (((nI (mo_n (W 11))) - (nI 1)).toInt64) = mo_bl x (mo_n (W 11)) from mo_in_cnt (by omega)]
  refine mw_if_ne X 22 rfl rfl (fun c16 => ?_) (fun c16 => ?_)
  · obtain ⟨k, hk, rfl⟩ := mo_bl_t (mo_b_nz c16) (by omega)
    refine mw_steps X 3 (pc' := 25) (lv' := [(0, .ref mb), (1, .int (nI k)), (2, .int y)]) (st' := [.long 0, .long y.toInt64]) rfl ?_
    refine mw_ldc2 X kk_X5_157 rfl ?_
    refine mw_cS3r X kd_X5_in ks_X5_in kl_X5_68 rfl (Nat.le_of_ble_eq_true rfl) ⟨Nat.le_of_ble_eq_true rfl, Nat.le_of_ble_eq_true rfl⟩ ⟨Nat.le_of_ble_eq_true rfl, Nat.le_of_ble_eq_true rfl⟩ (fun _ h => h) (fun H h => cm_in hmb h) ?_
    rw [show mo_in y.toInt64 0 (5) = mo_bl y 6 from mo_in_bl (x := y) (g := 6) (by omega) (by omega)]
    refine mw_if_eq X 52 rfl rfl (fun c31 => ?_) (fun c31 => ?_)
    · refine mw_ldc X kk_X5_138 rfl ?_
      exact mw_iret X rfl rfl (fun H h => ⟨congrArg (fun z => some (Value.int z)) (Eq.symm (show op_letter W (nI k) y = (-1000000002) from by unfold op_letter; rw [if_pos (mo_bl_n hk (by omega)), if_neg (by rw [mo_b_z c31]; decide)])), h⟩)
    · obtain ⟨j, hj, rfl⟩ := mo_bl_t (mo_b_nz c31) (by omega)
      refine mw_steps X 1 (pc' := 35) (lv' := [(0, .ref mb), (1, .int (nI k)), (2, .int (nI j))]) (st' := [.ref mb]) rfl ?_
      refine mw_get X kf_X5_7.fl kc_5 rfl (v := .ref (mb + 1)) (fun H h => ⟨_, h.1, rfl⟩) ?_
      refine mw_steps X 7 (pc' := 48) (lv' := [(0, .ref mb), (1, .int (nI k)), (2, .int (nI j))]) (st' := [.int (((nI 327) + ((nI 6) * (nI k))) + (nI j)), .ref (mb + 1)]) rfl ?_
      refine mw_iald X (v := W (327 + 6 * k + j)) (327 + 6 * k + j) (by simp only [nI_add, pk_mul]) rfl (fun H h => ⟨_, _, h.2.1, by omega, by decide, rfl⟩) ?_
      refine mw_steps X 1 (pc' := 54) (lv' := [(0, .ref mb), (1, .int (nI k)), (2, .int (nI j))]) (st' := [.int (W (327 + 6 * k + j))]) rfl ?_
      exact mw_iret X rfl rfl (fun H h => ⟨congrArg (fun z => some (Value.int z)) (Eq.symm (show op_letter W (nI k) (nI j) = W (327 + 6 * k + j) from by unfold op_letter; rw [if_pos (mo_bl_n hk (by omega)), if_pos (mo_bl_n hj (by omega)), ml_n (by omega), ml_n (by omega)])), h⟩)
  · refine mw_ldc X kk_X5_147 rfl ?_
    exact mw_iret X rfl rfl (fun H h => ⟨congrArg (fun z => some (Value.int z)) (Eq.symm (show op_letter W x y = (-1000000001) from by unfold op_letter; rw [if_neg (by rw [mo_b_z c16]; decide)])), h⟩)
set_option maxHeartbeats 4000000 in
set_option maxRecDepth 20000 in
theorem cm_asked {l : Launch} {Γ : mw_C} {mb : Nat} (hmb : Γ.2.2.2 ≤ mb) {W : Nat → Int32} {ρ : md_R} {H : Heap} {c : Nat} {x y : Int32} (hH : md_I Γ mb W ρ H) (hv : iv c W) : mw_Cr l Γ mX5_challenge 2 0 0 (md_A mb) [.ref mb, .int x, .int y] H (some (.int (op_asked W x y))) (md_I Γ mb W ρ) := by
  have hn := ml_i13 hv.1
  have hn2 := ml_n6 hv.1
  refine mw_ofG (P := pX5_challenge) (by decide) (md_As hmb) oX5_challenge (Nat.le_of_ble_eq_true rfl) ?_
  intro pg e0 sg mg below meth cd X hs
  refine mw_pre (I' := md_I Γ mb W ρ) (fun H1 h1 => by rw [h1]; exact hH) ?_
  refine mw_steps X 4 (pc' := 4) (lv' := [(0, .ref mb), (1, .int x), (2, .int y)]) (st' := [.ref mb, .long 0, .long x.toInt64]) rfl ?_
  refine mw_get X kf_X5_7.fl kc_5 rfl (v := .ref (mb + 1)) (fun H h => ⟨_, h.1, rfl⟩) ?_
  refine mw_steps X 1 (pc' := 9) (lv' := [(0, .ref mb), (1, .int x), (2, .int y)]) (st' := [.int (nI 13), .ref (mb + 1), .long 0, .long x.toInt64]) rfl ?_
  refine mw_iald X (v := nI (mo_n (W 13))) (13) rfl rfl (fun H h => ⟨_, _, h.2.1, by omega, by decide, hn⟩) ?_
  refine mw_steps X 3 (pc' := 13) (lv' := [(0, .ref mb), (1, .int x), (2, .int y)]) (st' := [.long (((nI (mo_n (W 13))) - (nI 1)).toInt64), .long 0, .long x.toInt64]) rfl ?_
  refine mw_cS3r X kd_X5_in ks_X5_in kl_X5_68 rfl (Nat.le_of_ble_eq_true rfl) ⟨Nat.le_of_ble_eq_true rfl, Nat.le_of_ble_eq_true rfl⟩ ⟨Nat.le_of_ble_eq_true rfl, Nat.le_of_ble_eq_true rfl⟩ (fun _ h => h) (fun H h => cm_in hmb h) ?_
  rw [show mo_in x.toInt64 0 (((nI (mo_n (W 13))) - (nI 1)).toInt64) = mo_bl x (mo_n (W 13)) from mo_in_cnt (by omega)]
  refine mw_if_ne X 22 rfl rfl (fun c16 => ?_) (fun c16 => ?_)
  · obtain ⟨k, hk, rfl⟩ := mo_bl_t (mo_b_nz c16) (by omega)
    refine mw_steps X 3 (pc' := 25) (lv' := [(0, .ref mb), (1, .int (nI k)), (2, .int y)]) (st' := [.long 0, .long y.toInt64]) rfl ?_
    refine mw_ldc2 X kk_X5_142 rfl ?_
    refine mw_cS3r X kd_X5_in ks_X5_in kl_X5_68 rfl (Nat.le_of_ble_eq_true rfl) ⟨Nat.le_of_ble_eq_true rfl, Nat.le_of_ble_eq_true rfl⟩ ⟨Nat.le_of_ble_eq_true rfl, Nat.le_of_ble_eq_true rfl⟩ (fun _ h => h) (fun H h => cm_in hmb h) ?_
    rw [show mo_in y.toInt64 0 (4) = mo_bl y 5 from mo_in_bl (x := y) (g := 5) (by omega) (by omega)]
    refine mw_if_eq X 51 rfl rfl (fun c31 => ?_) (fun c31 => ?_)
    · refine mw_ldc X kk_X5_138 rfl ?_
      exact mw_iret X rfl rfl (fun H h => ⟨congrArg (fun z => some (Value.int z)) (Eq.symm (show op_asked W (nI k) y = (-1000000002) from by unfold op_asked; rw [if_pos (mo_bl_n hk (by omega)), if_neg (by rw [mo_b_z c31]; decide)])), h⟩)
    · obtain ⟨j, hj, rfl⟩ := mo_bl_t (mo_b_nz c31) (by omega)
      refine mw_steps X 1 (pc' := 35) (lv' := [(0, .ref mb), (1, .int (nI k)), (2, .int (nI j))]) (st' := [.ref mb]) rfl ?_
      refine mw_get X kf_X5_7.fl kc_5 rfl (v := .ref (mb + 1)) (fun H h => ⟨_, h.1, rfl⟩) ?_
      refine mw_steps X 7 (pc' := 47) (lv' := [(0, .ref mb), (1, .int (nI k)), (2, .int (nI j))]) (st' := [.int (((nI 507) + ((nI 5) * (nI k))) + (nI j)), .ref (mb + 1)]) rfl ?_
      refine mw_iald X (v := W (507 + 5 * k + j)) (507 + 5 * k + j) (by simp only [nI_add, pk_mul]) rfl (fun H h => ⟨_, _, h.2.1, by omega, by decide, rfl⟩) ?_
      refine mw_steps X 1 (pc' := 53) (lv' := [(0, .ref mb), (1, .int (nI k)), (2, .int (nI j))]) (st' := [.int (W (507 + 5 * k + j))]) rfl ?_
      exact mw_iret X rfl rfl (fun H h => ⟨congrArg (fun z => some (Value.int z)) (Eq.symm (show op_asked W (nI k) (nI j) = W (507 + 5 * k + j) from by unfold op_asked; rw [if_pos (mo_bl_n hk (by omega)), if_pos (mo_bl_n hj (by omega)), ml_n (by omega), ml_n (by omega)])), h⟩)
  · refine mw_ldc X kk_X5_147 rfl ?_
    exact mw_iret X rfl rfl (fun H h => ⟨congrArg (fun z => some (Value.int z)) (Eq.symm (show op_asked W x y = (-1000000001) from by unfold op_asked; rw [if_neg (by rw [mo_b_z c16]; decide)])), h⟩)
set_option maxHeartbeats 4000000 in
set_option maxRecDepth 20000 in
theorem cm_held {l : Launch} {Γ : mw_C} {mb : Nat} (hmb : Γ.2.2.2 ≤ mb) {W : Nat → Int32} {ρ : md_R} {H : Heap} {c : Nat} {x y : Int32} (hH : md_I Γ mb W ρ H) (hv : iv c W) : mw_Cr l Γ mX5_held 2 0 0 (md_A mb) [.ref mb, .int x, .int y] H (some (.int (op_held W x y))) (md_I Γ mb W ρ) := by
  have hn := ml_i12 hv.1
  have hn2 := ml_n12 hv.1
  refine mw_ofG (P := pX5_held) (by decide) (md_As hmb) oX5_held (Nat.le_of_ble_eq_true rfl) ?_
  intro pg e0 sg mg below meth cd X hs
  refine mw_pre (I' := md_I Γ mb W ρ) (fun H1 h1 => by rw [h1]; exact hH) ?_
  refine mw_steps X 4 (pc' := 4) (lv' := [(0, .ref mb), (1, .int x), (2, .int y)]) (st' := [.ref mb, .long 0, .long x.toInt64]) rfl ?_
  refine mw_get X kf_X5_7.fl kc_5 rfl (v := .ref (mb + 1)) (fun H h => ⟨_, h.1, rfl⟩) ?_
  refine mw_steps X 1 (pc' := 9) (lv' := [(0, .ref mb), (1, .int x), (2, .int y)]) (st' := [.int (nI 12), .ref (mb + 1), .long 0, .long x.toInt64]) rfl ?_
  refine mw_iald X (v := nI (mo_n (W 12))) (12) rfl rfl (fun H h => ⟨_, _, h.2.1, by omega, by decide, hn⟩) ?_
  refine mw_steps X 3 (pc' := 13) (lv' := [(0, .ref mb), (1, .int x), (2, .int y)]) (st' := [.long (((nI (mo_n (W 12))) - (nI 1)).toInt64), .long 0, .long x.toInt64]) rfl ?_
  refine mw_cS3r X kd_X5_in ks_X5_in kl_X5_68 rfl (Nat.le_of_ble_eq_true rfl) ⟨Nat.le_of_ble_eq_true rfl, Nat.le_of_ble_eq_true rfl⟩ ⟨Nat.le_of_ble_eq_true rfl, Nat.le_of_ble_eq_true rfl⟩ (fun _ h => h) (fun H h => cm_in hmb h) ?_
  rw [show mo_in x.toInt64 0 (((nI (mo_n (W 12))) - (nI 1)).toInt64) = mo_bl x (mo_n (W 12)) from mo_in_cnt (by omega)]
  refine mw_if_ne X 22 rfl rfl (fun c16 => ?_) (fun c16 => ?_)
  · obtain ⟨k, hk, rfl⟩ := mo_bl_t (mo_b_nz c16) (by omega)
    refine mw_steps X 3 (pc' := 25) (lv' := [(0, .ref mb), (1, .int (nI k)), (2, .int y)]) (st' := [.long 0, .long y.toInt64]) rfl ?_
    refine mw_ldc2 X kk_X5_159 rfl ?_
    refine mw_cS3r X kd_X5_in ks_X5_in kl_X5_68 rfl (Nat.le_of_ble_eq_true rfl) ⟨Nat.le_of_ble_eq_true rfl, Nat.le_of_ble_eq_true rfl⟩ ⟨Nat.le_of_ble_eq_true rfl, Nat.le_of_ble_eq_true rfl⟩ (fun _ h => h) (fun H h => cm_in hmb h) ?_
    rw [show mo_in y.toInt64 0 (2) = mo_bl y 3 from mo_in_bl (x := y) (g := 3) (by omega) (by omega)]
    refine mw_if_eq X 51 rfl rfl (fun c31 => ?_) (fun c31 => ?_)
    · refine mw_ldc X kk_X5_138 rfl ?_
      exact mw_iret X rfl rfl (fun H h => ⟨congrArg (fun z => some (Value.int z)) (Eq.symm (show op_held W (nI k) y = (-1000000002) from by unfold op_held; rw [if_pos (mo_bl_n hk (by omega)), if_neg (by rw [mo_b_z c31]; decide)])), h⟩)
    · obtain ⟨j, hj, rfl⟩ := mo_bl_t (mo_b_nz c31) (by omega)
      refine mw_steps X 1 (pc' := 35) (lv' := [(0, .ref mb), (1, .int (nI k)), (2, .int (nI j))]) (st' := [.ref mb]) rfl ?_
      refine mw_get X kf_X5_7.fl kc_5 rfl (v := .ref (mb + 1)) (fun H h => ⟨_, h.1, rfl⟩) ?_
      refine mw_steps X 7 (pc' := 47) (lv' := [(0, .ref mb), (1, .int (nI k)), (2, .int (nI j))]) (st' := [.int (((nI 471) + ((nI 3) * (nI k))) + (nI j)), .ref (mb + 1)]) rfl ?_
      refine mw_iald X (v := W (471 + 3 * k + j)) (471 + 3 * k + j) (by simp only [nI_add, pk_mul]) rfl (fun H h => ⟨_, _, h.2.1, by omega, by decide, rfl⟩) ?_
      refine mw_steps X 1 (pc' := 53) (lv' := [(0, .ref mb), (1, .int (nI k)), (2, .int (nI j))]) (st' := [.int (W (471 + 3 * k + j))]) rfl ?_
      exact mw_iret X rfl rfl (fun H h => ⟨congrArg (fun z => some (Value.int z)) (Eq.symm (show op_held W (nI k) (nI j) = W (471 + 3 * k + j) from by unfold op_held; rw [if_pos (mo_bl_n hk (by omega)), if_pos (mo_bl_n hj (by omega)), ml_n (by omega), ml_n (by omega)])), h⟩)
  · refine mw_ldc X kk_X5_147 rfl ?_
    exact mw_iret X rfl rfl (fun H h => ⟨congrArg (fun z => some (Value.int z)) (Eq.symm (show op_held W x y = (-1000000001) from by unfold op_held; rw [if_neg (by rw [mo_b_z c16]; decide)])), h⟩)
set_option maxHeartbeats 4000000 in
set_option maxRecDepth 20000 in
theorem cm_name {l : Launch} {Γ : mw_C} {mb : Nat} (hmb : Γ.2.2.2 ≤ mb) {W : Nat → Int32} {ρ : md_R} {H : Heap} {c : Nat} {x : Int32} (hH : md_I Γ mb W ρ H) (hv : iv c W) : mw_Cr l Γ mX5_name 2 0 0 (md_A mb) [.ref mb, .int x] H (some (.int (op_name W x))) (md_I Γ mb W ρ) := by
  obtain ⟨g, hg2, hg40, hg, -⟩ := hv.2.2.2.2.2.2.1
  have hgn : mo_n (W 1) = g := by rw [hg, ml_n (by omega)]
  refine mw_ofG (P := pX5_name) (by decide) (md_As hmb) oX5_name (Nat.le_of_ble_eq_true rfl) ?_
  intro pg e0 sg mg below meth cd X hs
  refine mw_pre (I' := md_I Γ mb W ρ) (fun H1 h1 => by rw [h1]; exact hH) ?_
  refine mw_steps X 4 (pc' := 4) (lv' := [(0, .ref mb), (1, .int x)]) (st' := [.ref mb, .long 0, .long x.toInt64]) rfl ?_
  refine mw_get X kf_X5_7.fl kc_5 rfl (v := .ref (mb + 1)) (fun H h => ⟨_, h.1, rfl⟩) ?_
  refine mw_steps X 1 (pc' := 8) (lv' := [(0, .ref mb), (1, .int x)]) (st' := [.int (nI 1), .ref (mb + 1), .long 0, .long x.toInt64]) rfl ?_
  refine mw_iald X (v := nI g) (1) rfl rfl (fun H h => ⟨_, _, h.2.1, by omega, by decide, hg⟩) ?_
  refine mw_steps X 3 (pc' := 12) (lv' := [(0, .ref mb), (1, .int x)]) (st' := [.long (((nI g) - (nI 1)).toInt64), .long 0, .long x.toInt64]) rfl ?_
  refine mw_cS3r X kd_X5_in ks_X5_in kl_X5_68 rfl (Nat.le_of_ble_eq_true rfl) ⟨Nat.le_of_ble_eq_true rfl, Nat.le_of_ble_eq_true rfl⟩ ⟨Nat.le_of_ble_eq_true rfl, Nat.le_of_ble_eq_true rfl⟩ (fun _ h => h) (fun H h => cm_in hmb h) ?_
  rw [show mo_in x.toInt64 0 (((nI g) - (nI 1)).toInt64) = mo_bl x g from mo_in_cnt (by omega)]
  refine mw_if_ne X 21 rfl rfl (fun c15 => ?_) (fun c15 => ?_)
  · obtain ⟨k, hk, rfl⟩ := mo_bl_t (mo_b_nz c15) (by omega)
    refine mw_steps X 1 (pc' := 22) (lv' := [(0, .ref mb), (1, .int (nI k))]) (st' := [.ref mb]) rfl ?_
    refine mw_get X kf_X5_7.fl kc_5 rfl (v := .ref (mb + 1)) (fun H h => ⟨_, h.1, rfl⟩) ?_
    refine mw_steps X 3 (pc' := 29) (lv' := [(0, .ref mb), (1, .int (nI k))]) (st' := [.int ((nI 47) + (nI k)), .ref (mb + 1)]) rfl ?_
    refine mw_iald X (v := W (47 + k)) (47 + k) (by simp only [nI_add, pk_mul]) rfl (fun H h => ⟨_, _, h.2.1, by omega, by decide, rfl⟩) ?_
    refine mw_steps X 1 (pc' := 31) (lv' := [(0, .ref mb), (1, .int (nI k))]) (st' := [.ref mb, .int (W (47 + k))]) rfl ?_
    refine mw_get X kf_X5_7.fl kc_5 rfl (v := .ref (mb + 1)) (fun H h => ⟨_, h.1, rfl⟩) ?_
    refine mw_steps X 3 (pc' := 38) (lv' := [(0, .ref mb), (1, .int (nI k))]) (st' := [.int ((nI 87) + (nI k)), .ref (mb + 1), .int (W (47 + k))]) rfl ?_
    refine mw_iald X (v := W (87 + k)) (87 + k) (by simp only [nI_add, pk_mul]) rfl (fun H h => ⟨_, _, h.2.1, by omega, by decide, rfl⟩) ?_
    refine mw_steps X 1 (pc' := 40) (lv' := [(0, .ref mb), (1, .int (nI k))]) (st' := [.int (nI 1), .int (W (87 + k)), .int (W (47 + k))]) rfl ?_
    refine mw_icmp_ne X 47 rfl rfl (fun c40 => ?_) (fun c40 => ?_)
    · refine mw_steps X 2 (pc' := 49) (lv' := [(0, .ref mb), (1, .int (nI k))]) (st' := [.int ((W (47 + k)) + (nI 0))]) rfl ?_
      exact mw_iret X rfl rfl (fun H h => ⟨congrArg (fun z => some (Value.int z)) (Eq.symm (show op_name W (nI k) = (W (47 + k)) + (nI 0) from by unfold op_name; rw [hgn, if_pos (mo_bl_n hk (by omega)), ml_n (by omega)]; first | rw [if_pos c40] | rw [if_neg c40])), h⟩)
    · refine mw_steps X 3 (pc' := 49) (lv' := [(0, .ref mb), (1, .int (nI k))]) (st' := [.int ((W (47 + k)) + (nI 2))]) rfl ?_
      exact mw_iret X rfl rfl (fun H h => ⟨congrArg (fun z => some (Value.int z)) (Eq.symm (show op_name W (nI k) = (W (47 + k)) + (nI 2) from by unfold op_name; rw [hgn, if_pos (mo_bl_n hk (by omega)), ml_n (by omega)]; first | rw [if_pos c40] | rw [if_neg c40])), h⟩)
  · refine mw_ldc X kk_X5_147 rfl ?_
    exact mw_iret X rfl rfl (fun H h => ⟨congrArg (fun z => some (Value.int z)) (Eq.symm (show op_name W x = (-1000000001) from by unfold op_name; rw [hgn, if_neg (by rw [mo_b_z c15]; decide)])), h⟩)
set_option maxHeartbeats 4000000 in
set_option maxRecDepth 20000 in
theorem cm_wordA0 {l : Launch} {Γ : mw_C} {mb : Nat} (hmb : Γ.2.2.2 ≤ mb) {W : Nat → Int32} {ρ : md_R} {H : Heap} {c : Nat} {y : Int32} (hH : md_I Γ mb W ρ H) (hv : iv c W) : mw_Cr l Γ mX5_word_ 3 0 0 (md_A mb) [.ref mb, .int (nI 0), .int y] H (some (.int (op_word W (nI 0) y))) (md_I Γ mb W ρ) := by
  obtain ⟨⟨n, hn2, hn⟩, -⟩ := hv.2.2.2.2.2.2.2.1 1 (by omega)
  have hnn : mo_n (W (19 - 0)) = n := by show mo_n (W 19) = n; rw [show W 19 = nI n from hn, ml_n (by omega)]
  refine mw_ofG (P := pX5_word_) (by decide) (md_As hmb) oX5_word_ (Nat.le_of_ble_eq_true rfl) ?_
  intro pg e0 sg mg below meth cd X hs
  refine mw_pre (I' := md_I Γ mb W ρ) (fun H1 h1 => by rw [h1]; exact hH) ?_
  refine mw_steps X 1 (pc' := 1) (lv' := [(0, .ref mb), (1, .int (nI 0)), (2, .int y)]) (st' := [.int (nI 0)]) rfl ?_
  refine mw_cS1r X kd_X5_isEnd ks_X5_isEnd kl_X5_144 rfl (Nat.le_of_ble_eq_true rfl) ⟨Nat.le_of_ble_eq_true rfl, Nat.le_of_ble_eq_true rfl⟩ ⟨Nat.le_of_ble_eq_true rfl, Nat.le_of_ble_eq_true rfl⟩ (fun _ h => h) (fun H h => cm_isEnd hmb h) ?_
  refine mw_if_eq X 28 rfl rfl (fun c4 => absurd c4 (by decide)) (fun c4 => ?_)
  refine mw_steps X 4 (pc' := 11) (lv' := [(0, .ref mb), (1, .int (nI 0)), (2, .int y)]) (st' := [.ref mb, .long 0, .long y.toInt64]) rfl ?_
  refine mw_get X kf_X5_7.fl kc_5 rfl (v := .ref (mb + 1)) (fun H h => ⟨_, h.1, rfl⟩) ?_
  refine mw_steps X 3 (pc' := 18) (lv' := [(0, .ref mb), (1, .int (nI 0)), (2, .int y)]) (st' := [.int ((nI 19) - (nI 0)), .ref (mb + 1), .long 0, .long y.toInt64]) rfl ?_
  refine mw_iald X (v := nI n) (19) (by decide) rfl (fun H h => ⟨_, _, h.2.1, by omega, by decide, hn⟩) ?_
  refine mw_steps X 3 (pc' := 22) (lv' := [(0, .ref mb), (1, .int (nI 0)), (2, .int y)]) (st' := [.long (((nI n) - (nI 1)).toInt64), .long 0, .long y.toInt64]) rfl ?_
  refine mw_cS3r X kd_X5_in ks_X5_in kl_X5_68 rfl (Nat.le_of_ble_eq_true rfl) ⟨Nat.le_of_ble_eq_true rfl, Nat.le_of_ble_eq_true rfl⟩ ⟨Nat.le_of_ble_eq_true rfl, Nat.le_of_ble_eq_true rfl⟩ (fun _ h => h) (fun H h => cm_in hmb h) ?_
  rw [show mo_in y.toInt64 0 (((nI n) - (nI 1)).toInt64) = mo_bl y n from mo_in_cnt (by omega)]
  refine mw_if_ne X 31 rfl rfl (fun c25 => ?_) (fun c25 => ?_)
  · obtain ⟨k, hk, rfl⟩ := mo_bl_t (mo_b_nz c25) (by omega)
    refine mw_steps X 1 (pc' := 32) (lv' := [(0, .ref mb), (1, .int (nI 0)), (2, .int (nI k))]) (st' := [.ref mb]) rfl ?_
    refine mw_get X kf_X5_7.fl kc_5 rfl (v := .ref (mb + 1)) (fun H h => ⟨_, h.1, rfl⟩) ?_
    refine mw_steps X 7 (pc' := 44) (lv' := [(0, .ref mb), (1, .int (nI 0)), (2, .int (nI k))]) (st' := [.int (((nI 127) + ((nI 100) * (nI 0))) + (nI k)), .ref (mb + 1)]) rfl ?_
    refine mw_iald X (v := W (127 + 100 * 0 + k)) (127 + 100 * 0 + k) (by simp only [nI_add, pk_mul]) rfl (fun H h => ⟨_, _, h.2.1, by omega, by decide, rfl⟩) ?_
    exact mw_iret X rfl rfl (fun H h => ⟨congrArg (fun z => some (Value.int z)) (Eq.symm (show op_word W (nI 0) (nI k) = W (127 + 100 * 0 + k) from by unfold op_word; rw [if_pos (mo_bl_n (show 0 < 2 by omega) (by omega)), ml_n (show 0 ≤ 100000 by omega), hnn, if_pos (mo_bl_n hk (by omega)), ml_n (by omega)])), h⟩)
  · refine mw_ldc X kk_X5_147 rfl ?_
    exact mw_iret X rfl rfl (fun H h => ⟨congrArg (fun z => some (Value.int z)) (Eq.symm (show op_word W (nI 0) y = (-1000000001) from by unfold op_word; rw [if_pos (mo_bl_n (show 0 < 2 by omega) (by omega)), ml_n (show 0 ≤ 100000 by omega), hnn, if_neg (by rw [mo_b_z c25]; decide)])), h⟩)
set_option maxHeartbeats 4000000 in
set_option maxRecDepth 20000 in
theorem cm_wordA1 {l : Launch} {Γ : mw_C} {mb : Nat} (hmb : Γ.2.2.2 ≤ mb) {W : Nat → Int32} {ρ : md_R} {H : Heap} {c : Nat} {y : Int32} (hH : md_I Γ mb W ρ H) (hv : iv c W) : mw_Cr l Γ mX5_word_ 3 0 0 (md_A mb) [.ref mb, .int (nI 1), .int y] H (some (.int (op_word W (nI 1) y))) (md_I Γ mb W ρ) := by
  obtain ⟨⟨n, hn2, hn⟩, -⟩ := hv.2.2.2.2.2.2.2.1 0 (by omega)
  have hnn : mo_n (W (19 - 1)) = n := by show mo_n (W 18) = n; rw [show W 18 = nI n from hn, ml_n (by omega)]
  refine mw_ofG (P := pX5_word_) (by decide) (md_As hmb) oX5_word_ (Nat.le_of_ble_eq_true rfl) ?_
  intro pg e0 sg mg below meth cd X hs
  refine mw_pre (I' := md_I Γ mb W ρ) (fun H1 h1 => by rw [h1]; exact hH) ?_
  refine mw_steps X 1 (pc' := 1) (lv' := [(0, .ref mb), (1, .int (nI 1)), (2, .int y)]) (st' := [.int (nI 1)]) rfl ?_
  refine mw_cS1r X kd_X5_isEnd ks_X5_isEnd kl_X5_144 rfl (Nat.le_of_ble_eq_true rfl) ⟨Nat.le_of_ble_eq_true rfl, Nat.le_of_ble_eq_true rfl⟩ ⟨Nat.le_of_ble_eq_true rfl, Nat.le_of_ble_eq_true rfl⟩ (fun _ h => h) (fun H h => cm_isEnd hmb h) ?_
  refine mw_if_eq X 28 rfl rfl (fun c4 => absurd c4 (by decide)) (fun c4 => ?_)
  refine mw_steps X 4 (pc' := 11) (lv' := [(0, .ref mb), (1, .int (nI 1)), (2, .int y)]) (st' := [.ref mb, .long 0, .long y.toInt64]) rfl ?_
  refine mw_get X kf_X5_7.fl kc_5 rfl (v := .ref (mb + 1)) (fun H h => ⟨_, h.1, rfl⟩) ?_
  refine mw_steps X 3 (pc' := 18) (lv' := [(0, .ref mb), (1, .int (nI 1)), (2, .int y)]) (st' := [.int ((nI 19) - (nI 1)), .ref (mb + 1), .long 0, .long y.toInt64]) rfl ?_
  refine mw_iald X (v := nI n) (18) (by decide) rfl (fun H h => ⟨_, _, h.2.1, by omega, by decide, hn⟩) ?_
  refine mw_steps X 3 (pc' := 22) (lv' := [(0, .ref mb), (1, .int (nI 1)), (2, .int y)]) (st' := [.long (((nI n) - (nI 1)).toInt64), .long 0, .long y.toInt64]) rfl ?_
  refine mw_cS3r X kd_X5_in ks_X5_in kl_X5_68 rfl (Nat.le_of_ble_eq_true rfl) ⟨Nat.le_of_ble_eq_true rfl, Nat.le_of_ble_eq_true rfl⟩ ⟨Nat.le_of_ble_eq_true rfl, Nat.le_of_ble_eq_true rfl⟩ (fun _ h => h) (fun H h => cm_in hmb h) ?_
  rw [show mo_in y.toInt64 0 (((nI n) - (nI 1)).toInt64) = mo_bl y n from mo_in_cnt (by omega)]
  refine mw_if_ne X 31 rfl rfl (fun c25 => ?_) (fun c25 => ?_)
  · obtain ⟨k, hk, rfl⟩ := mo_bl_t (mo_b_nz c25) (by omega)
    refine mw_steps X 1 (pc' := 32) (lv' := [(0, .ref mb), (1, .int (nI 1)), (2, .int (nI k))]) (st' := [.ref mb]) rfl ?_
    refine mw_get X kf_X5_7.fl kc_5 rfl (v := .ref (mb + 1)) (fun H h => ⟨_, h.1, rfl⟩) ?_
    refine mw_steps X 7 (pc' := 44) (lv' := [(0, .ref mb), (1, .int (nI 1)), (2, .int (nI k))]) (st' := [.int (((nI 127) + ((nI 100) * (nI 1))) + (nI k)), .ref (mb + 1)]) rfl ?_
    refine mw_iald X (v := W (127 + 100 * 1 + k)) (127 + 100 * 1 + k) (by simp only [nI_add, pk_mul]) rfl (fun H h => ⟨_, _, h.2.1, by omega, by decide, rfl⟩) ?_
    exact mw_iret X rfl rfl (fun H h => ⟨congrArg (fun z => some (Value.int z)) (Eq.symm (show op_word W (nI 1) (nI k) = W (127 + 100 * 1 + k) from by unfold op_word; rw [if_pos (mo_bl_n (show 1 < 2 by omega) (by omega)), ml_n (show 1 ≤ 100000 by omega), hnn, if_pos (mo_bl_n hk (by omega)), ml_n (by omega)])), h⟩)
  · refine mw_ldc X kk_X5_147 rfl ?_
    exact mw_iret X rfl rfl (fun H h => ⟨congrArg (fun z => some (Value.int z)) (Eq.symm (show op_word W (nI 1) y = (-1000000001) from by unfold op_word; rw [if_pos (mo_bl_n (show 1 < 2 by omega) (by omega)), ml_n (show 1 ≤ 100000 by omega), hnn, if_neg (by rw [mo_b_z c25]; decide)])), h⟩)
set_option maxHeartbeats 4000000 in
set_option maxRecDepth 20000 in
theorem cm_wordAU {l : Launch} {Γ : mw_C} {mb : Nat} (hmb : Γ.2.2.2 ≤ mb) {W : Nat → Int32} {ρ : md_R} {H : Heap} {c : Nat} {x y : Int32} (hH : md_I Γ mb W ρ H) (hv : iv c W) (hx : mo_bl x 2 = false) : mw_Cr l Γ mX5_word_ 3 0 0 (md_A mb) [.ref mb, .int x, .int y] H (some (.int (op_word W x y))) (md_I Γ mb W ρ) := by
  refine mw_ofG (P := pX5_word_) (by decide) (md_As hmb) oX5_word_ (Nat.le_of_ble_eq_true rfl) ?_
  intro pg e0 sg mg below meth cd X hs
  refine mw_pre (I' := md_I Γ mb W ρ) (fun H1 h1 => by rw [h1]; exact hH) ?_
  refine mw_steps X 1 (pc' := 1) (lv' := [(0, .ref mb), (1, .int x), (2, .int y)]) (st' := [.int x]) rfl ?_
  refine mw_cS1r X kd_X5_isEnd ks_X5_isEnd kl_X5_144 rfl (Nat.le_of_ble_eq_true rfl) ⟨Nat.le_of_ble_eq_true rfl, Nat.le_of_ble_eq_true rfl⟩ ⟨Nat.le_of_ble_eq_true rfl, Nat.le_of_ble_eq_true rfl⟩ (fun _ h => h) (fun H h => cm_isEnd hmb h) ?_
  refine mw_if_eq X 28 rfl rfl (fun c4 => ?_) (fun c4 => absurd (by rw [hx]; rfl) c4)
  refine mw_ldc X kk_X5_147 rfl ?_
  exact mw_iret X rfl rfl (fun H h => ⟨congrArg (fun z => some (Value.int z)) (Eq.symm (show op_word W x y = (-1000000001) from by unfold op_word; rw [hx, if_neg (by decide)])), h⟩)
theorem cm_wordA {l : Launch} {Γ : mw_C} {mb : Nat} (hmb : Γ.2.2.2 ≤ mb) {W : Nat → Int32} {ρ : md_R} {H : Heap} {c : Nat} {x y : Int32} (hH : md_I Γ mb W ρ H) (hv : iv c W) : mw_Cr l Γ mX5_word_ 3 0 0 (md_A mb) [.ref mb, .int x, .int y] H (some (.int (op_word W x y))) (md_I Γ mb W ρ) := by
  cases hb : mo_bl x 2 with
  | false => exact cm_wordAU hmb hH hv hb
  | true =>
    obtain ⟨j, hj, rfl⟩ := mo_bl_t hb (by omega)
    match j, hj with
    | 0, _ => exact cm_wordA0 hmb hH hv
    | 1, _ => exact cm_wordA1 hmb hH hv
    | j + 2, hj => exact absurd hj (by omega)
