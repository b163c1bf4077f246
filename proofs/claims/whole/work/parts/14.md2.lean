set_option maxHeartbeats 4000000 in
theorem cm_in {l : Launch} {Γ : mw_C} {mb : Nat} (hmb : Γ.2.2.2 ≤ mb) {H : Heap} {x lo hi : Int64} {J : Heap → Prop} (hJ : J H) : mw_Cr l Γ mX5_in 1 0 0 (md_A mb) [.long x, .long lo, .long hi] H (some (.int (mo_b (mo_in x lo hi)))) J := by
  refine mw_ofG (P := pX5_in) (by decide) (md_As hmb) oX5_in (Nat.le_of_ble_eq_true rfl) ?_
  intro pg e0 sg mg below meth cd X hs
  refine mw_pre (I' := J) (fun H1 h1 => by rw [h1]; exact hJ) ?_
  refine mw_steps X 3 (pc' := 3) (lv' := [(0, .long x), (2, .long lo), (4, .long hi)]) (st' := [.int (lg_cmp x lo)]) rfl ?_
  refine mw_if_lt X 17 rfl rfl (fun c3 => ?_) (fun c3 => ?_)
  · refine mw_steps X 1 (pc' := 18) (lv' := [(0, .long x), (2, .long lo), (4, .long hi)]) (st' := [.int (nI 0)]) rfl ?_
    exact mw_zret X rfl (by decide) rfl (fun H h => ⟨congrArg (fun z => some (Value.int z)) (by rw [show mo_in x lo hi = false from by simp only [mo_in, Bool.and_eq_false_iff, decide_eq_false_iff_not]; first | exact Or.inl (Int64.not_le.mpr (ml_cmp_lt.mp c3)) | exact Or.inr (Int64.not_le.mpr (ml_cmp_gt.mp c10))]; rfl), h⟩)
  · refine mw_steps X 3 (pc' := 10) (lv' := [(0, .long x), (2, .long lo), (4, .long hi)]) (st' := [.int (lg_cmp x hi)]) rfl ?_
    refine mw_if_gt X 17 rfl rfl (fun c10 => ?_) (fun c10 => ?_)
    · refine mw_steps X 1 (pc' := 18) (lv' := [(0, .long x), (2, .long lo), (4, .long hi)]) (st' := [.int (nI 0)]) rfl ?_
      exact mw_zret X rfl (by decide) rfl (fun H h => ⟨congrArg (fun z => some (Value.int z)) (by rw [show mo_in x lo hi = false from by simp only [mo_in, Bool.and_eq_false_iff, decide_eq_false_iff_not]; first | exact Or.inl (Int64.not_le.mpr (ml_cmp_lt.mp c3)) | exact Or.inr (Int64.not_le.mpr (ml_cmp_gt.mp c10))]; rfl), h⟩)
    · refine mw_steps X 2 (pc' := 18) (lv' := [(0, .long x), (2, .long lo), (4, .long hi)]) (st' := [.int (nI 1)]) rfl ?_
      exact mw_zret X rfl (by decide) rfl (fun H h => ⟨congrArg (fun z => some (Value.int z)) (by rw [show mo_in x lo hi = true from by simp only [mo_in, Bool.and_eq_true, decide_eq_true_eq]; exact ⟨Int64.not_lt.mp (fun q => c3 (ml_cmp_lt.mpr q)), Int64.not_lt.mp (fun q => c10 (ml_cmp_gt.mpr q))⟩]; rfl), h⟩)
set_option maxHeartbeats 4000000 in
set_option maxRecDepth 20000 in
theorem cm_removeAt {l : Launch} {Γ : mw_C} {mb : Nat} (hmb : Γ.2.2.2 ≤ mb) {W : Nat → Int32} {ρ : md_R} {H : Heap} {f z q k n : Nat} (hH : md_I Γ mb W ρ H) (hn : W q = nI n) (hk : k < n) (hn2 : n ≤ 24) (hz : z ≤ 6) (hb : f + z * n ≤ 3137) (hq : q < f) : mw_Cr l Γ mX5_removeAt 1 0 0 (md_A mb) [.ref mb, .int (nI f), .int (nI z), .int (nI q), .int (nI k)] H none (md_I Γ mb (mo_rm W f z q k) ρ) := by
  refine mw_ofG (P := pX5_removeAt) (by decide) (md_As hmb) oX5_removeAt (Nat.le_of_ble_eq_true rfl) ?_
  intro pg e0 sg mg below meth cd X hs
  refine mw_pre (I' := md_I Γ mb W ρ) (fun H1 h1 => by rw [h1]; exact hH) ?_
  have hmono : z * (k + 1) ≤ z * n := Nat.mul_le_mul_left z hk
  have hzn : z * n ≤ 144 := Nat.le_trans (Nat.mul_le_mul hz hn2) (by decide)
  have hzk : z * (k + 1) = z * k + z := Nat.mul_succ z k
  have hN : z * (n - 1 - k) = z * n - z * (k + 1) := by rw [show n - 1 - k = n - (k + 1) by omega, Nat.mul_sub]
  have hN1 : z * (n - 1) = z * n - z := by rw [Nat.mul_sub, Nat.mul_one]
  refine mw_steps X 6 (pc' := 8) (lv' := [(5, .int ((nI f) + ((nI z) * (nI k)))), (0, .ref mb), (1, .int (nI f)), (2, .int (nI z)), (3, .int (nI q)), (4, .int (nI k))]) (st' := []) rfl ?_
  refine mw_lveq (lv' := [(5, .int (nI (f + z * k + 0))), (0, .ref mb), (1, .int (nI f)), (2, .int (nI z)), (3, .int (nI q)), (4, .int (nI k))]) (by simp only [nI_add, pk_mul]; rfl) ?_
  refine mw_pre (I' := md_I Γ mb (va_cpy W W (f + z * (k + 1)) (f + z * k) 0) ρ) (fun H h => by rw [ml_cpy0]; exact h) ?_
  refine mw_wf (fun t => z * (n - 1 - k) - t) (fun t => t ≤ z * (n - 1 - k)) (fun t => md_I Γ mb (va_cpy W W (f + z * (k + 1)) (f + z * k) t) ρ) (fun t => [(5, .int (nI (f + z * k + t))), (0, .ref mb), (1, .int (nI f)), (2, .int (nI z)), (3, .int (nI q)), (4, .int (nI k))]) (fun t ht ih => ?_) 0 (Nat.zero_le _)
  have hr : va_cpy W W (f + z * (k + 1)) (f + z * k) t q = nI n := by rw [pk_cpy_out (by omega)]; exact hn
  refine mw_steps X 4 (pc' := 13) (lv' := [(5, .int (nI (f + z * k + t))), (0, .ref mb), (1, .int (nI f)), (2, .int (nI z)), (3, .int (nI q)), (4, .int (nI k))]) (st' := [.ref mb, .int (nI z), .int (nI f), .int (nI (f + z * k + t))]) rfl ?_
  refine mw_get X kf_X5_7.fl kc_5 rfl (v := .ref (mb + 1)) (fun H h => ⟨_, h.1, rfl⟩) ?_
  refine mw_steps X 1 (pc' := 17) (lv' := [(5, .int (nI (f + z * k + t))), (0, .ref mb), (1, .int (nI f)), (2, .int (nI z)), (3, .int (nI q)), (4, .int (nI k))]) (st' := [.int (nI q), .ref (mb + 1), .int (nI z), .int (nI f), .int (nI (f + z * k + t))]) rfl ?_
  refine mw_iald X (v := nI n) (q) rfl rfl (fun H h => ⟨_, _, h.2.1, by omega, by decide, hr⟩) ?_
  refine mw_steps X 4 (pc' := 22) (lv' := [(5, .int (nI (f + z * k + t))), (0, .ref mb), (1, .int (nI f)), (2, .int (nI z)), (3, .int (nI q)), (4, .int (nI k))]) (st' := [.int ((nI f) + ((nI z) * ((nI n) - (nI 1)))), .int (nI (f + z * k + t))]) rfl ?_
  refine mw_icmp_ge X 47 rfl rfl (fun c22 => ?_) (fun c22 => ?_)
  · have hge : z * (n - 1 - k) ≤ t := by
      rw [ml_pred (by omega), pk_mul, nI_add, nI_leI (by omega) (by omega)] at c22
      omega
    refine mw_steps X 1 (pc' := 48) (lv' := [(5, .int (nI (f + z * k + t))), (0, .ref mb), (1, .int (nI f)), (2, .int (nI z)), (3, .int (nI q)), (4, .int (nI k))]) (st' := [.ref mb]) rfl ?_
    refine mw_get X kf_X5_7.fl kc_5 rfl (v := .ref (mb + 1)) (fun H h => ⟨_, h.1, rfl⟩) ?_
    refine mw_steps X 2 (pc' := 53) (lv' := [(5, .int (nI (f + z * k + t))), (0, .ref mb), (1, .int (nI f)), (2, .int (nI z)), (3, .int (nI q)), (4, .int (nI k))]) (st' := [.int (nI q), .ref (mb + 1), .int (nI q), .ref (mb + 1)]) rfl ?_
    refine mw_iald X (v := nI n) (q) rfl rfl (fun H h => ⟨_, _, h.2.1, by omega, by decide, hr⟩) ?_
    refine mw_steps X 2 (pc' := 56) (lv' := [(5, .int (nI (f + z * k + t))), (0, .ref mb), (1, .int (nI f)), (2, .int (nI z)), (3, .int (nI q)), (4, .int (nI k))]) (st' := [.int ((nI n) - (nI 1)), .int (nI q), .ref (mb + 1)]) rfl ?_
    refine mw_iast X (I1 := md_I Γ mb (upd (va_cpy W W (f + z * (k + 1)) (f + z * k) t) (q) ((nI n) - (nI 1))) ρ) (q) rfl rfl (fun H h => ⟨md_A1, _, _, h.2.1, by omega, by decide, fun H1 o c => h.stw o c⟩) ?_
    exact mw_vret X rfl rfl (fun H h => ⟨rfl, by rw [show mo_rm W f z q k = upd (va_cpy W W (f + z * (k + 1)) (f + z * k) t) (q) ((nI n) - (nI 1)) from by unfold mo_rm; rw [hn, ml_n (by omega), show t = z * (n - 1 - k) by omega]]; exact h⟩)
  · have hlt : t < z * (n - 1 - k) := by
      rw [ml_pred (by omega), pk_mul, nI_add, nI_leI (by omega) (by omega)] at c22
      omega
    refine mw_steps X 1 (pc' := 26) (lv' := [(5, .int (nI (f + z * k + t))), (0, .ref mb), (1, .int (nI f)), (2, .int (nI z)), (3, .int (nI q)), (4, .int (nI k))]) (st' := [.ref mb]) rfl ?_
    refine mw_get X kf_X5_7.fl kc_5 rfl (v := .ref (mb + 1)) (fun H h => ⟨_, h.1, rfl⟩) ?_
    refine mw_steps X 2 (pc' := 32) (lv' := [(5, .int (nI (f + z * k + t))), (0, .ref mb), (1, .int (nI f)), (2, .int (nI z)), (3, .int (nI q)), (4, .int (nI k))]) (st' := [.ref mb, .int (nI (f + z * k + t)), .ref (mb + 1)]) rfl ?_
    refine mw_get X kf_X5_7.fl kc_5 rfl (v := .ref (mb + 1)) (fun H h => ⟨_, h.1, rfl⟩) ?_
    refine mw_steps X 3 (pc' := 39) (lv' := [(5, .int (nI (f + z * k + t))), (0, .ref mb), (1, .int (nI f)), (2, .int (nI z)), (3, .int (nI q)), (4, .int (nI k))]) (st' := [.int ((nI (f + z * k + t)) + (nI z)), .ref (mb + 1), .int (nI (f + z * k + t)), .ref (mb + 1)]) rfl ?_
    refine mw_iald X (v := (va_cpy W W (f + z * (k + 1)) (f + z * k) t) (f + z * k + t + z)) (f + z * k + t + z) (by simp only [nI_add, pk_mul]) rfl (fun H h => ⟨_, _, h.2.1, by omega, by decide, rfl⟩) ?_
    refine mw_iast X (I1 := md_I Γ mb (upd (va_cpy W W (f + z * (k + 1)) (f + z * k) t) (f + z * k + t) ((va_cpy W W (f + z * (k + 1)) (f + z * k) t) (f + z * k + t + z))) ρ) (f + z * k + t) (by simp only [nI_add, pk_mul]) rfl (fun H h => ⟨md_A1, _, _, h.2.1, by omega, by decide, fun H1 o c => h.stw o c⟩) ?_
    refine mw_steps X 2 (pc' := 8) (lv' := [(5, .int ((nI (f + z * k + t)) + (nI 1))), (0, .ref mb), (1, .int (nI f)), (2, .int (nI z)), (3, .int (nI q)), (4, .int (nI k))]) (st' := []) rfl ?_
    refine mw_lveq (lv' := [(5, .int (nI (f + z * k + (t + 1)))), (0, .ref mb), (1, .int (nI f)), (2, .int (nI z)), (3, .int (nI q)), (4, .int (nI k))]) (by simp only [nI_add]; rfl) ?_
    refine mw_pre (fun H h => ?_) (ih (t + 1) (by omega) (by omega))
    rw [← ml_cpyS W (by omega)]
    rw [show f + z * (k + 1) + t = f + z * k + t + z by omega]; exact h
