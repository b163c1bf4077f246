set_option maxHeartbeats 4000000 in
set_option maxRecDepth 20000 in
theorem cm_retire {l : Launch} {Γ : mw_C} {mb : Nat} (hmb : Γ.2.2.2 ≤ mb) {W : Nat → Int32} {ρ : md_R} {H : Heap} {c : Nat} {x own : Int32} (hH : md_I Γ mb W ρ H) (hv : iv c W) : mw_Cr l Γ mX5_retire 4 0 0 (md_A mb) [.ref mb, .int x, .int own] H none (md_I Γ mb (mo_retire W x own) ρ) := by
  obtain ⟨g, hg2, hg40, hg, -⟩ := hv.2.2.2.2.2.2.1
  obtain ⟨cu, hcu5, hcu⟩ := ml_c3 hv
  have hlive := ml_live_in (x := x) hg (by omega) hg40
  refine mw_ofG (P := pX5_retire) (by decide) (md_As hmb) oX5_retire (Nat.le_of_ble_eq_true rfl) ?_
  intro pg e0 sg mg below meth cd X hs
  refine mw_pre (I' := md_I Γ mb W ρ) (fun H1 h1 => by rw [h1]; exact hH) ?_
  refine mw_steps X 4 (pc' := 4) (lv' := [(0, .ref mb), (1, .int x), (2, .int own)]) (st' := [.ref mb, .long 0, .long x.toInt64]) rfl ?_
  refine mw_get X kf_X5_7.fl kc_5 rfl (v := .ref (mb + 1)) (fun H h => ⟨_, h.1, rfl⟩) ?_
  refine mw_steps X 1 (pc' := 8) (lv' := [(0, .ref mb), (1, .int x), (2, .int own)]) (st' := [.int (nI 1), .ref (mb + 1), .long 0, .long x.toInt64]) rfl ?_
  refine mw_iald X (v := nI g) (1) rfl rfl (fun H h => ⟨_, _, h.2.1, by omega, by decide, hg⟩) ?_
  refine mw_steps X 3 (pc' := 12) (lv' := [(0, .ref mb), (1, .int x), (2, .int own)]) (st' := [.long (((nI g) - (nI 1)).toInt64), .long 0, .long x.toInt64]) rfl ?_
  refine mw_cS3r X kd_X5_in ks_X5_in kl_X5_68 rfl (Nat.le_of_ble_eq_true rfl) ⟨Nat.le_of_ble_eq_true rfl, Nat.le_of_ble_eq_true rfl⟩ ⟨Nat.le_of_ble_eq_true rfl, Nat.le_of_ble_eq_true rfl⟩ (fun _ h => h) (fun H h => cm_in hmb h) ?_
  refine mw_if_eq X 40 rfl rfl (fun c15 => ?_) (fun c15 => ?_)
  · refine mw_steps X 3 (pc' := 43) (lv' := [(3, .int (nI 0)), (0, .ref mb), (1, .int x), (2, .int own)]) (st' := [.int (nI 0)]) rfl ?_
    refine mw_if_eq X 110 rfl rfl (fun c43 => ?_) (fun c43 => absurd (by decide) c43)
    exact mw_vret X rfl rfl (fun H h => ⟨rfl, by rw [show mo_retire W x own = W from by exact ml_retire_f (by first | (rw [hlive, mo_b_z c15]; exact fun q => by cases q.1) | (rw [hlive]; exact fun q => c28 (of_decide_eq_true q.1)) | exact fun q => q.2 c33)]; exact h⟩)
  · rw [mo_b_nz c15, Bool.true_and] at hlive
    obtain ⟨hx0, hxg⟩ := (ml_in0 (by omega) (by omega)).mp (mo_b_nz c15)
    obtain ⟨j, hj, rfl⟩ := ml_of_range hx0 hxg (by omega)
    rw [ml_n (by omega)] at hlive
    refine mw_steps X 1 (pc' := 19) (lv' := [(0, .ref mb), (1, .int (nI j)), (2, .int own)]) (st' := [.ref mb]) rfl ?_
    refine mw_get X kf_X5_7.fl kc_5 rfl (v := .ref (mb + 1)) (fun H h => ⟨_, h.1, rfl⟩) ?_
    refine mw_steps X 3 (pc' := 26) (lv' := [(0, .ref mb), (1, .int (nI j)), (2, .int own)]) (st' := [.int ((nI 47) + (nI j)), .ref (mb + 1)]) rfl ?_
    refine mw_iald X (v := W (47 + j)) (47 + j) (by simp only [nI_add, pk_mul]) rfl (fun H h => ⟨_, _, h.2.1, by omega, by decide, rfl⟩) ?_
    refine mw_steps X 1 (pc' := 28) (lv' := [(0, .ref mb), (1, .int (nI j)), (2, .int own)]) (st' := [.int (nI 1), .int (W (47 + j))]) rfl ?_
    refine mw_icmp_ne X 40 rfl rfl (fun c28 => ?_) (fun c28 => ?_)
    · refine mw_steps X 3 (pc' := 43) (lv' := [(3, .int (nI 0)), (0, .ref mb), (1, .int (nI j)), (2, .int own)]) (st' := [.int (nI 0)]) rfl ?_
      refine mw_if_eq X 110 rfl rfl (fun c43 => ?_) (fun c43 => absurd (by decide) c43)
      exact mw_vret X rfl rfl (fun H h => ⟨rfl, by rw [show mo_retire W (nI j) own = W from by exact ml_retire_f (by first | (rw [hlive, mo_b_z c15]; exact fun q => by cases q.1) | (rw [hlive]; exact fun q => c28 (of_decide_eq_true q.1)) | exact fun q => q.2 c33)]; exact h⟩)
    · refine mw_steps X 2 (pc' := 33) (lv' := [(0, .ref mb), (1, .int (nI j)), (2, .int own)]) (st' := [.int own, .int (nI j)]) rfl ?_
      refine mw_icmp_eq X 40 rfl rfl (fun c33 => ?_) (fun c33 => ?_)
      · refine mw_steps X 3 (pc' := 43) (lv' := [(3, .int (nI 0)), (0, .ref mb), (1, .int (nI j)), (2, .int own)]) (st' := [.int (nI 0)]) rfl ?_
        refine mw_if_eq X 110 rfl rfl (fun c43 => ?_) (fun c43 => absurd (by decide) c43)
        exact mw_vret X rfl rfl (fun H h => ⟨rfl, by rw [show mo_retire W (nI j) own = W from by exact ml_retire_f (by first | (rw [hlive, mo_b_z c15]; exact fun q => by cases q.1) | (rw [hlive]; exact fun q => c28 (of_decide_eq_true q.1)) | exact fun q => q.2 c33)]; exact h⟩)
      · refine mw_steps X 4 (pc' := 43) (lv' := [(3, .int (nI 1)), (0, .ref mb), (1, .int (nI j)), (2, .int own)]) (st' := [.int (nI 1)]) rfl ?_
        refine mw_if_eq X 110 rfl rfl (fun c43 => absurd c43 (by decide)) (fun c43 => ?_)
        refine mw_steps X 1 (pc' := 47) (lv' := [(3, .int (nI 1)), (0, .ref mb), (1, .int (nI j)), (2, .int own)]) (st' := [.ref mb]) rfl ?_
        refine mw_get X kf_X5_7.fl kc_5 rfl (v := .ref (mb + 1)) (fun H h => ⟨_, h.1, rfl⟩) ?_
        refine mw_steps X 4 (pc' := 55) (lv' := [(3, .int (nI 1)), (0, .ref mb), (1, .int (nI j)), (2, .int own)]) (st' := [.int (nI 0), .int ((nI 47) + (nI j)), .ref (mb + 1)]) rfl ?_
        refine mw_iast X (I1 := md_I Γ mb (upd W (47 + j) (nI 0)) ρ) (47 + j) (by simp only [nI_add, pk_mul]) rfl (fun H h => ⟨md_A1, _, _, h.2.1, by omega, by decide, fun H1 o c => h.stw o c⟩) ?_
        refine mw_steps X 1 (pc' := 57) (lv' := [(3, .int (nI 1)), (0, .ref mb), (1, .int (nI j)), (2, .int own)]) (st' := [.ref mb]) rfl ?_
        refine mw_get X kf_X5_7.fl kc_5 rfl (v := .ref (mb + 1)) (fun H h => ⟨_, h.1, rfl⟩) ?_
        refine mw_steps X 1 (pc' := 61) (lv' := [(3, .int (nI 1)), (0, .ref mb), (1, .int (nI j)), (2, .int own)]) (st' := [.int (nI 1), .ref (mb + 1)]) rfl ?_
        refine mw_iald X (v := nI g) (1) rfl rfl (fun H h => ⟨_, _, h.2.1, by omega, by decide, (by simp (disch := omega) only [pk_un]; exact hg)⟩) ?_
        refine mw_steps X 1 (pc' := 64) (lv' := [(3, .int (nI 1)), (0, .ref mb), (1, .int (nI j)), (2, .int own)]) (st' := [.int (nI 40), .int (nI g)]) rfl ?_
        refine mw_icmp_ge X 110 rfl rfl (fun c64 => ?_) (fun c64 => ?_)
        · exact mw_vret X rfl rfl (fun H h => ⟨rfl, by rw [show mo_retire W (nI j) own = upd W (47 + j) (nI 0) from by exact ml_retire_full (by rw [hlive]; exact decide_eq_true c28) c33 (by omega) hg (by rw [hg]; exact Int32.not_lt.mpr c64)]; exact h⟩)
        · refine mw_steps X 1 (pc' := 68) (lv' := [(3, .int (nI 1)), (0, .ref mb), (1, .int (nI j)), (2, .int own)]) (st' := [.ref mb]) rfl ?_
          refine mw_get X kf_X5_7.fl kc_5 rfl (v := .ref (mb + 1)) (fun H h => ⟨_, h.1, rfl⟩) ?_
          refine mw_steps X 1 (pc' := 72) (lv' := [(3, .int (nI 1)), (0, .ref mb), (1, .int (nI j)), (2, .int own)]) (st' := [.int (nI 1), .ref (mb + 1)]) rfl ?_
          refine mw_iald X (v := nI g) (1) rfl rfl (fun H h => ⟨_, _, h.2.1, by omega, by decide, (by simp (disch := omega) only [pk_un]; exact hg)⟩) ?_
          refine mw_steps X 2 (pc' := 76) (lv' := [(4, .int (nI g)), (3, .int (nI 1)), (0, .ref mb), (1, .int (nI j)), (2, .int own)]) (st' := [.ref mb]) rfl ?_
          refine mw_get X kf_X5_7.fl kc_5 rfl (v := .ref (mb + 1)) (fun H h => ⟨_, h.1, rfl⟩) ?_
          refine mw_steps X 4 (pc' := 85) (lv' := [(4, .int (nI g)), (3, .int (nI 1)), (0, .ref mb), (1, .int (nI j)), (2, .int own)]) (st' := [.int (nI 1), .int ((nI 47) + (nI g)), .ref (mb + 1)]) rfl ?_
          refine mw_iast X (I1 := md_I Γ mb (upd (upd W (47 + j) (nI 0)) (47 + g) (nI 1)) ρ) (47 + g) (by simp only [nI_add, pk_mul]) rfl (fun H h => ⟨md_A1, _, _, h.2.1, by omega, by decide, fun H1 o c => h.stw o c⟩) ?_
          refine mw_steps X 1 (pc' := 87) (lv' := [(4, .int (nI g)), (3, .int (nI 1)), (0, .ref mb), (1, .int (nI j)), (2, .int own)]) (st' := [.ref mb]) rfl ?_
          refine mw_get X kf_X5_7.fl kc_5 rfl (v := .ref (mb + 1)) (fun H h => ⟨_, h.1, rfl⟩) ?_
          refine mw_steps X 2 (pc' := 92) (lv' := [(4, .int (nI g)), (3, .int (nI 1)), (0, .ref mb), (1, .int (nI j)), (2, .int own)]) (st' := [.int (nI 1), .ref (mb + 1), .int (nI 1), .ref (mb + 1)]) rfl ?_
          refine mw_iald X (v := nI g) (1) rfl rfl (fun H h => ⟨_, _, h.2.1, by omega, by decide, (by simp (disch := omega) only [pk_un]; exact hg)⟩) ?_
          refine mw_steps X 2 (pc' := 95) (lv' := [(4, .int (nI g)), (3, .int (nI 1)), (0, .ref mb), (1, .int (nI j)), (2, .int own)]) (st' := [.int ((nI g) + (nI 1)), .int (nI 1), .ref (mb + 1)]) rfl ?_
          refine mw_iast X (I1 := md_I Γ mb (upd (upd (upd W (47 + j) (nI 0)) (47 + g) (nI 1)) (1) ((nI g) + (nI 1))) ρ) (1) rfl rfl (fun H h => ⟨md_A1, _, _, h.2.1, by omega, by decide, fun H1 o c => h.stw o c⟩) ?_
          refine mw_steps X 3 (pc' := 99) (lv' := [(4, .int (nI g)), (3, .int (nI 1)), (0, .ref mb), (1, .int (nI j)), (2, .int own)]) (st' := [.ref mb, .int (nI 1), .ref mb]) rfl ?_
          refine mw_get X kf_X5_7.fl kc_5 rfl (v := .ref (mb + 1)) (fun H h => ⟨_, h.1, rfl⟩) ?_
          refine mw_steps X 1 (pc' := 103) (lv' := [(4, .int (nI g)), (3, .int (nI 1)), (0, .ref mb), (1, .int (nI j)), (2, .int own)]) (st' := [.int (nI 3), .ref (mb + 1), .int (nI 1), .ref mb]) rfl ?_
          refine mw_iald X (v := nI cu) (3) rfl rfl (fun H h => ⟨_, _, h.2.1, by omega, by decide, (by simp (disch := omega) only [pk_un]; exact hcu)⟩) ?_
          refine mw_steps X 2 (pc' := 107) (lv' := [(4, .int (nI g)), (3, .int (nI 1)), (0, .ref mb), (1, .int (nI j)), (2, .int own)]) (st' := [.int (nI g), .int (nI 3), .int (nI cu), .int (nI 1), .ref mb]) rfl ?_
          refine mw_cV4v X kd_X5_goes kv_X5_goes kl_X5_47 (ci := 5) rfl rfl (Nat.le_of_ble_eq_true rfl) ⟨Nat.le_of_ble_eq_true rfl, Nat.le_of_ble_eq_true rfl⟩ ⟨Nat.le_of_ble_eq_true rfl, Nat.le_of_ble_eq_true rfl⟩ (fun _ h => h) (fun H h => ⟨⟨_, h.1⟩, cm_goes hmb h (e := 1) (k := 3) (hv.1.cg (fun j a b => by simp (disch := omega) only [pk_un])) (by omega) hcu5 (by omega)⟩) ?_
          exact mw_vret X rfl rfl (fun H h => ⟨rfl, by rw [show mo_retire W (nI j) own = mo_goes (upd (upd (upd W (47 + j) (nI 0)) (47 + g) (nI 1)) (1) ((nI g) + (nI 1))) 1 cu 3 (nI g) from by exact ml_retire_new (by rw [hlive]; exact decide_eq_true c28) c33 (by omega) hg hg40 hcu hcu5 (by rw [hg]; exact Int32.not_le.mp c64)]; exact h⟩)
set_option maxHeartbeats 4000000 in
set_option maxRecDepth 20000 in
theorem cm_house0 {l : Launch} {Γ : mw_C} {mb : Nat} (hmb : Γ.2.2.2 ≤ mb) {W : Nat → Int32} {ρ : md_R} {H : Heap} {p y c : Nat} {name x : Int32} (hH : md_I Γ mb W ρ H) (hv : iv (c + 25) W) (hp : p < 5) (hy : y < 32768) (hvx : iv_v 0 0 x) : mw_Cr l Γ mX5_takenByHouse 7 0 0 (md_A mb) [.ref mb, .int (nI p), .int name, .int (nI y), .int (nI 0), .int x] H (some (.int (nI (mo_houseWhy W name y)))) (md_I Γ mb (mo_house W p name y 0 x) ρ) := by
  obtain ⟨v, hv100, hxv⟩ := hvx.1 rfl
  refine mw_ofG (P := pX5_takenByHouse) (by decide) (md_As hmb) oX5_takenByHouse (Nat.le_of_ble_eq_true rfl) ?_
  intro pg e0 sg mg below meth cd X hs
  refine mw_pre (I' := md_I Γ mb W ρ) (fun H1 h1 => by rw [h1]; exact hH) ?_
  refine mw_steps X 2 (pc' := 2) (lv' := [(0, .ref mb), (1, .int (nI p)), (2, .int name), (3, .int (nI y)), (4, .int (nI 0)), (5, .int x)]) (st' := [.int name, .ref mb]) rfl ?_
  refine mw_cV1r X kd_X5_isLive kv_X5_isLive kl_X5_72 (ci := 5) rfl rfl (Nat.le_of_ble_eq_true rfl) ⟨Nat.le_of_ble_eq_true rfl, Nat.le_of_ble_eq_true rfl⟩ ⟨Nat.le_of_ble_eq_true rfl, Nat.le_of_ble_eq_true rfl⟩ (fun _ h => h) (fun H h => ⟨⟨_, h.1⟩, cm_isLive hmb h hv⟩) ?_
  refine mw_if_ne X 10 rfl rfl (fun c5 => ?_) (fun c5 => ?_)
  · refine mw_steps X 3 (pc' := 13) (lv' := [(0, .ref mb), (1, .int (nI p)), (2, .int name), (3, .int (nI y)), (4, .int (nI 0)), (5, .int x)]) (st' := [.int (nI y), .int (nI 1), .ref mb]) rfl ?_
    refine mw_cV2r X kd_X5_took kv_X5_took kl_X5_76 (ci := 5) rfl rfl (Nat.le_of_ble_eq_true rfl) ⟨Nat.le_of_ble_eq_true rfl, Nat.le_of_ble_eq_true rfl⟩ ⟨Nat.le_of_ble_eq_true rfl, Nat.le_of_ble_eq_true rfl⟩ (fun _ h => h) (fun H h => ⟨⟨_, h.1⟩, cm_took hmb h (e := 1) (by omega) hy⟩) ?_
    refine mw_if_eq X 21 rfl rfl (fun c16 => ?_) (fun c16 => ?_)
    · refine mw_steps X 3 (pc' := 24) (lv' := [(0, .ref mb), (1, .int (nI p)), (2, .int name), (3, .int (nI y)), (4, .int (nI 0)), (5, .int x)]) (st' := [.int (nI y), .int (nI 1), .ref mb]) rfl ?_
      refine mw_cV2v X kd_X5_note kv_X5_note kl_X5_79 (ci := 5) rfl rfl (Nat.le_of_ble_eq_true rfl) ⟨Nat.le_of_ble_eq_true rfl, Nat.le_of_ble_eq_true rfl⟩ ⟨Nat.le_of_ble_eq_true rfl, Nat.le_of_ble_eq_true rfl⟩ (fun _ h => h) (fun H h => ⟨⟨_, h.1⟩, cm_note hmb h (e := 1) (by omega) hy⟩) ?_
      have hn37 : mo_note W 1 y (37 + p) = W (37 + p) := pk_un (by omega)
      refine mw_steps X 1 (pc' := 28) (lv' := [(0, .ref mb), (1, .int (nI p)), (2, .int name), (3, .int (nI y)), (4, .int (nI 0)), (5, .int x)]) (st' := [.ref mb]) rfl ?_
      refine mw_get X kf_X5_7.fl kc_5 rfl (v := .ref (mb + 1)) (fun H h => ⟨_, h.1, rfl⟩) ?_
      refine mw_steps X 4 (pc' := 36) (lv' := [(0, .ref mb), (1, .int (nI p)), (2, .int name), (3, .int (nI y)), (4, .int (nI 0)), (5, .int x)]) (st' := [.int ((nI 37) + (nI p)), .ref (mb + 1), .int ((nI 37) + (nI p)), .ref (mb + 1)]) rfl ?_
      refine mw_iald X (v := W (37 + p)) (37 + p) (by simp only [nI_add, pk_mul]) rfl (fun H h => ⟨_, _, h.2.1, by omega, by decide, hn37⟩) ?_
      refine mw_steps X 1 (pc' := 39) (lv' := [(0, .ref mb), (1, .int (nI p)), (2, .int name), (3, .int (nI y)), (4, .int (nI 0)), (5, .int x)]) (st' := [.int (nI 0), .int (W (37 + p)), .int ((nI 37) + (nI p)), .ref (mb + 1)]) rfl ?_
      refine mw_cS1r X kd_X5_sizeOf ks_X5_sizeOf kl_X5_25 rfl (Nat.le_of_ble_eq_true rfl) ⟨Nat.le_of_ble_eq_true rfl, Nat.le_of_ble_eq_true rfl⟩ ⟨Nat.le_of_ble_eq_true rfl, Nat.le_of_ble_eq_true rfl⟩ (fun _ h => h) (fun H h => cm_sizeOf hmb (k := 0) (by omega) h) ?_
      refine mw_steps X 1 (pc' := 43) (lv' := [(0, .ref mb), (1, .int (nI p)), (2, .int name), (3, .int (nI y)), (4, .int (nI 0)), (5, .int x)]) (st' := [.int ((W (37 + p)) + (mw_sz 0)), .int ((nI 37) + (nI p)), .ref (mb + 1)]) rfl ?_
      refine mw_iast X (I1 := md_I Γ mb (upd (mo_note W 1 y) (37 + p) ((W (37 + p)) + (mw_sz 0))) ρ) (37 + p) (by simp only [nI_add, pk_mul]) rfl (fun H h => ⟨md_A1, _, _, h.2.1, by omega, by decide, fun H1 o c => h.stw o c⟩) ?_
      obtain ⟨G, hG⟩ : ∃ G, G = mo_houseGot W p 0 y := ⟨_, rfl⟩
      rw [show upd (mo_note W 1 y) (37 + p) ((W (37 + p)) + (mw_sz 0)) = G from hG.symm]
      have hiG : iv (c + 25) G := by rw [hG]; exact iv_got hv hp
      refine mw_steps X 1 (pc' := 46) (lv' := [(0, .ref mb), (1, .int (nI p)), (2, .int name), (3, .int (nI y)), (4, .int (nI 0)), (5, .int x)]) (st' := [.int (nI 0)]) rfl ?_
      refine mw_if_eq X 55 rfl rfl (fun c46 => ?_) (fun c46 => absurd (by decide) c46)
      refine mw_steps X 2 (pc' := 57) (lv' := [(0, .ref mb), (1, .int (nI p)), (2, .int name), (3, .int (nI y)), (4, .int (nI 0)), (5, .int x)]) (st' := [.ref mb, .int (nI y)]) rfl ?_
      refine mw_get X kf_X5_7.fl kc_5 rfl (v := .ref (mb + 1)) (fun H h => ⟨_, h.1, rfl⟩) ?_
      refine mw_steps X 1 (pc' := 62) (lv' := [(0, .ref mb), (1, .int (nI p)), (2, .int name), (3, .int (nI y)), (4, .int (nI 0)), (5, .int x)]) (st' := [.int (nI 6), .ref (mb + 1), .int (nI y)]) rfl ?_
      refine mw_iald X (v := G (6)) (6) rfl rfl (fun H h => ⟨_, _, h.2.1, by omega, by decide, rfl⟩) ?_
      refine mw_icmp_le X 79 rfl rfl (fun c63 => ?_) (fun c63 => ?_)
      · rw [show G = mo_new G p 0 y from by first | exact (ml_new_k (by decide)).symm | exact (ml_new_n c63).symm | exact (ml_new_y (by decide) c63).symm]
        have hiN : iv (c + 24) (mo_new G p 0 y) := iv_new hiG hp
        obtain ⟨N, hN⟩ : ∃ N, N = mo_new G p 0 y := ⟨_, rfl⟩
        rw [← hN] at hiN ⊢
        subst hxv
        refine mw_steps X 1 (pc' := 81) (lv' := [(0, .ref mb), (1, .int (nI p)), (2, .int name), (3, .int (nI y)), (4, .int (nI 0)), (5, .int (nI v))]) (st' := [.int (nI 0)]) rfl ?_
        refine mw_tsIn X 0 rfl (by decide) 120 rfl (by decide) rfl rfl ?_
        refine mw_steps X 4 (pc' := 125) (lv' := [(0, .ref mb), (1, .int (nI p)), (2, .int name), (3, .int (nI y)), (4, .int (nI 0)), (5, .int (nI v))]) (st' := [.int (nI 1), .int (nI v), .int (nI 1), .ref mb]) rfl ?_
        refine mw_cV3v X kd_X5_word kv_X5_word kl_X5_85 (ci := 5) rfl rfl (Nat.le_of_ble_eq_true rfl) ⟨Nat.le_of_ble_eq_true rfl, Nat.le_of_ble_eq_true rfl⟩ ⟨Nat.le_of_ble_eq_true rfl, Nat.le_of_ble_eq_true rfl⟩ (fun _ h => h) (fun H h => ⟨⟨_, h.1⟩, cm_word hmb h (e := 1) hiN (by omega) hv100⟩) ?_
        refine mw_steps X 3 (pc' := 179) (lv' := [(0, .ref mb), (1, .int (nI p)), (2, .int name), (3, .int (nI y)), (4, .int (nI 0)), (5, .int (nI v))]) (st' := [.int (nI p), .ref mb]) rfl ?_
        rw [show mo_word N 1 v = mo_houseBy N p 0 name (nI v) from Eq.symm (by rw [ml_hb0, ml_n (by omega)])]
        refine mw_cV1v X kd_X5_letOut kv_X5_letOut kl_X5_65 (ci := 5) rfl rfl (Nat.le_of_ble_eq_true rfl) ⟨Nat.le_of_ble_eq_true rfl, Nat.le_of_ble_eq_true rfl⟩ ⟨Nat.le_of_ble_eq_true rfl, Nat.le_of_ble_eq_true rfl⟩ (fun _ h => h) (fun H h => ⟨⟨_, h.1⟩, cm_letOut hmb h (c := c) (iv_houseBy (c := c + 12) hiN hp (by omega) hvx) hp⟩) ?_
        refine mw_steps X 1 (pc' := 183) (lv' := [(0, .ref mb), (1, .int (nI p)), (2, .int name), (3, .int (nI y)), (4, .int (nI 0)), (5, .int (nI v))]) (st' := [.int (nI 0)]) rfl ?_
        exact mw_iret X rfl rfl (fun H h => ⟨by rw [(ml_house_0 (p := p) (k := 0) (x := (nI v)) (mo_b_nz c5) (mo_b_z c16)).1], by rw [(ml_house_0 (mo_b_nz c5) (mo_b_z c16)).2, ← hG, ← hN]; exact h⟩)
      · refine mw_steps X 1 (pc' := 67) (lv' := [(0, .ref mb), (1, .int (nI p)), (2, .int name), (3, .int (nI y)), (4, .int (nI 0)), (5, .int x)]) (st' := [.ref mb]) rfl ?_
        refine mw_get X kf_X5_7.fl kc_5 rfl (v := .ref (mb + 1)) (fun H h => ⟨_, h.1, rfl⟩) ?_
        refine mw_steps X 2 (pc' := 73) (lv' := [(0, .ref mb), (1, .int (nI p)), (2, .int name), (3, .int (nI y)), (4, .int (nI 0)), (5, .int x)]) (st' := [.int (nI y), .int (nI 6), .ref (mb + 1)]) rfl ?_
        refine mw_iast X (I1 := md_I Γ mb (upd G (6) (nI y)) ρ) (6) rfl rfl (fun H h => ⟨md_A1, _, _, h.2.1, by omega, by decide, fun H1 o c => h.stw o c⟩) ?_
        refine mw_steps X 2 (pc' := 76) (lv' := [(0, .ref mb), (1, .int (nI p)), (2, .int name), (3, .int (nI y)), (4, .int (nI 0)), (5, .int x)]) (st' := [.int (nI p), .ref mb]) rfl ?_
        refine mw_cV1v X kd_X5_follow kv_X5_follow kl_X5_82 (ci := 5) rfl rfl (Nat.le_of_ble_eq_true rfl) ⟨Nat.le_of_ble_eq_true rfl, Nat.le_of_ble_eq_true rfl⟩ ⟨Nat.le_of_ble_eq_true rfl, Nat.le_of_ble_eq_true rfl⟩ (fun _ h => h) (fun H h => ⟨⟨_, h.1⟩, cm_follow hmb h (hiG.free (fun j a => pk_un (by omega))) hp⟩) ?_
        rw [show mo_follow (upd G 6 (nI y)) p = mo_new G p 0 y from by first | exact (ml_new_k (by decide)).symm | exact (ml_new_n c63).symm | exact (ml_new_y (by decide) c63).symm]
        have hiN : iv (c + 24) (mo_new G p 0 y) := iv_new hiG hp
        obtain ⟨N, hN⟩ : ∃ N, N = mo_new G p 0 y := ⟨_, rfl⟩
        rw [← hN] at hiN ⊢
        subst hxv
        refine mw_steps X 1 (pc' := 81) (lv' := [(0, .ref mb), (1, .int (nI p)), (2, .int name), (3, .int (nI y)), (4, .int (nI 0)), (5, .int (nI v))]) (st' := [.int (nI 0)]) rfl ?_
        refine mw_tsIn X 0 rfl (by decide) 120 rfl (by decide) rfl rfl ?_
        refine mw_steps X 4 (pc' := 125) (lv' := [(0, .ref mb), (1, .int (nI p)), (2, .int name), (3, .int (nI y)), (4, .int (nI 0)), (5, .int (nI v))]) (st' := [.int (nI 1), .int (nI v), .int (nI 1), .ref mb]) rfl ?_
        refine mw_cV3v X kd_X5_word kv_X5_word kl_X5_85 (ci := 5) rfl rfl (Nat.le_of_ble_eq_true rfl) ⟨Nat.le_of_ble_eq_true rfl, Nat.le_of_ble_eq_true rfl⟩ ⟨Nat.le_of_ble_eq_true rfl, Nat.le_of_ble_eq_true rfl⟩ (fun _ h => h) (fun H h => ⟨⟨_, h.1⟩, cm_word hmb h (e := 1) hiN (by omega) hv100⟩) ?_
        refine mw_steps X 3 (pc' := 179) (lv' := [(0, .ref mb), (1, .int (nI p)), (2, .int name), (3, .int (nI y)), (4, .int (nI 0)), (5, .int (nI v))]) (st' := [.int (nI p), .ref mb]) rfl ?_
        rw [show mo_word N 1 v = mo_houseBy N p 0 name (nI v) from Eq.symm (by rw [ml_hb0, ml_n (by omega)])]
        refine mw_cV1v X kd_X5_letOut kv_X5_letOut kl_X5_65 (ci := 5) rfl rfl (Nat.le_of_ble_eq_true rfl) ⟨Nat.le_of_ble_eq_true rfl, Nat.le_of_ble_eq_true rfl⟩ ⟨Nat.le_of_ble_eq_true rfl, Nat.le_of_ble_eq_true rfl⟩ (fun _ h => h) (fun H h => ⟨⟨_, h.1⟩, cm_letOut hmb h (c := c) (iv_houseBy (c := c + 12) hiN hp (by omega) hvx) hp⟩) ?_
        refine mw_steps X 1 (pc' := 183) (lv' := [(0, .ref mb), (1, .int (nI p)), (2, .int name), (3, .int (nI y)), (4, .int (nI 0)), (5, .int (nI v))]) (st' := [.int (nI 0)]) rfl ?_
        exact mw_iret X rfl rfl (fun H h => ⟨by rw [(ml_house_0 (p := p) (k := 0) (x := (nI v)) (mo_b_nz c5) (mo_b_z c16)).1], by rw [(ml_house_0 (mo_b_nz c5) (mo_b_z c16)).2, ← hG, ← hN]; exact h⟩)
    · refine mw_steps X 1 (pc' := 20) (lv' := [(0, .ref mb), (1, .int (nI p)), (2, .int name), (3, .int (nI y)), (4, .int (nI 0)), (5, .int x)]) (st' := [.int (nI 3)]) rfl ?_
      exact mw_iret X rfl rfl (fun H h => ⟨by rw [(ml_house_3 (p := p) (k := 0) (x := x) (mo_b_nz c5) (mo_b_nz c16)).1], by rw [(ml_house_3 (p := p) (k := 0) (x := x) (mo_b_nz c5) (mo_b_nz c16)).2]; exact h⟩)
  · refine mw_steps X 1 (pc' := 9) (lv' := [(0, .ref mb), (1, .int (nI p)), (2, .int name), (3, .int (nI y)), (4, .int (nI 0)), (5, .int x)]) (st' := [.int (nI 1)]) rfl ?_
    exact mw_iret X rfl rfl (fun H h => ⟨by rw [(ml_house_1 (p := p) (y := y) (k := 0) (x := x) (mo_b_z c5)).1], by rw [(ml_house_1 (p := p) (y := y) (k := 0) (x := x) (mo_b_z c5)).2]; exact h⟩)
set_option maxHeartbeats 4000000 in
set_option maxRecDepth 20000 in
theorem cm_house1 {l : Launch} {Γ : mw_C} {mb : Nat} (hmb : Γ.2.2.2 ≤ mb) {W : Nat → Int32} {ρ : md_R} {H : Heap} {p y c : Nat} {name x : Int32} (hH : md_I Γ mb W ρ H) (hv : iv (c + 25) W) (hp : p < 5) (hy : y < 32768) (hvx : iv_v 0 1 x) : mw_Cr l Γ mX5_takenByHouse 7 0 0 (md_A mb) [.ref mb, .int (nI p), .int name, .int (nI y), .int (nI 1), .int x] H (some (.int (nI (mo_houseWhy W name y)))) (md_I Γ mb (mo_house W p name y 1 x) ρ) := by
  refine mw_ofG (P := pX5_takenByHouse) (by decide) (md_As hmb) oX5_takenByHouse (Nat.le_of_ble_eq_true rfl) ?_
  intro pg e0 sg mg below meth cd X hs
  refine mw_pre (I' := md_I Γ mb W ρ) (fun H1 h1 => by rw [h1]; exact hH) ?_
  refine mw_steps X 2 (pc' := 2) (lv' := [(0, .ref mb), (1, .int (nI p)), (2, .int name), (3, .int (nI y)), (4, .int (nI 1)), (5, .int x)]) (st' := [.int name, .ref mb]) rfl ?_
  refine mw_cV1r X kd_X5_isLive kv_X5_isLive kl_X5_72 (ci := 5) rfl rfl (Nat.le_of_ble_eq_true rfl) ⟨Nat.le_of_ble_eq_true rfl, Nat.le_of_ble_eq_true rfl⟩ ⟨Nat.le_of_ble_eq_true rfl, Nat.le_of_ble_eq_true rfl⟩ (fun _ h => h) (fun H h => ⟨⟨_, h.1⟩, cm_isLive hmb h hv⟩) ?_
  refine mw_if_ne X 10 rfl rfl (fun c5 => ?_) (fun c5 => ?_)
  · refine mw_steps X 3 (pc' := 13) (lv' := [(0, .ref mb), (1, .int (nI p)), (2, .int name), (3, .int (nI y)), (4, .int (nI 1)), (5, .int x)]) (st' := [.int (nI y), .int (nI 1), .ref mb]) rfl ?_
    refine mw_cV2r X kd_X5_took kv_X5_took kl_X5_76 (ci := 5) rfl rfl (Nat.le_of_ble_eq_true rfl) ⟨Nat.le_of_ble_eq_true rfl, Nat.le_of_ble_eq_true rfl⟩ ⟨Nat.le_of_ble_eq_true rfl, Nat.le_of_ble_eq_true rfl⟩ (fun _ h => h) (fun H h => ⟨⟨_, h.1⟩, cm_took hmb h (e := 1) (by omega) hy⟩) ?_
    refine mw_if_eq X 21 rfl rfl (fun c16 => ?_) (fun c16 => ?_)
    · refine mw_steps X 3 (pc' := 24) (lv' := [(0, .ref mb), (1, .int (nI p)), (2, .int name), (3, .int (nI y)), (4, .int (nI 1)), (5, .int x)]) (st' := [.int (nI y), .int (nI 1), .ref mb]) rfl ?_
      refine mw_cV2v X kd_X5_note kv_X5_note kl_X5_79 (ci := 5) rfl rfl (Nat.le_of_ble_eq_true rfl) ⟨Nat.le_of_ble_eq_true rfl, Nat.le_of_ble_eq_true rfl⟩ ⟨Nat.le_of_ble_eq_true rfl, Nat.le_of_ble_eq_true rfl⟩ (fun _ h => h) (fun H h => ⟨⟨_, h.1⟩, cm_note hmb h (e := 1) (by omega) hy⟩) ?_
      have hn37 : mo_note W 1 y (37 + p) = W (37 + p) := pk_un (by omega)
      refine mw_steps X 1 (pc' := 28) (lv' := [(0, .ref mb), (1, .int (nI p)), (2, .int name), (3, .int (nI y)), (4, .int (nI 1)), (5, .int x)]) (st' := [.ref mb]) rfl ?_
      refine mw_get X kf_X5_7.fl kc_5 rfl (v := .ref (mb + 1)) (fun H h => ⟨_, h.1, rfl⟩) ?_
      refine mw_steps X 4 (pc' := 36) (lv' := [(0, .ref mb), (1, .int (nI p)), (2, .int name), (3, .int (nI y)), (4, .int (nI 1)), (5, .int x)]) (st' := [.int ((nI 37) + (nI p)), .ref (mb + 1), .int ((nI 37) + (nI p)), .ref (mb + 1)]) rfl ?_
      refine mw_iald X (v := W (37 + p)) (37 + p) (by simp only [nI_add, pk_mul]) rfl (fun H h => ⟨_, _, h.2.1, by omega, by decide, hn37⟩) ?_
      refine mw_steps X 1 (pc' := 39) (lv' := [(0, .ref mb), (1, .int (nI p)), (2, .int name), (3, .int (nI y)), (4, .int (nI 1)), (5, .int x)]) (st' := [.int (nI 1), .int (W (37 + p)), .int ((nI 37) + (nI p)), .ref (mb + 1)]) rfl ?_
      refine mw_cS1r X kd_X5_sizeOf ks_X5_sizeOf kl_X5_25 rfl (Nat.le_of_ble_eq_true rfl) ⟨Nat.le_of_ble_eq_true rfl, Nat.le_of_ble_eq_true rfl⟩ ⟨Nat.le_of_ble_eq_true rfl, Nat.le_of_ble_eq_true rfl⟩ (fun _ h => h) (fun H h => cm_sizeOf hmb (k := 1) (by omega) h) ?_
      refine mw_steps X 1 (pc' := 43) (lv' := [(0, .ref mb), (1, .int (nI p)), (2, .int name), (3, .int (nI y)), (4, .int (nI 1)), (5, .int x)]) (st' := [.int ((W (37 + p)) + (mw_sz 1)), .int ((nI 37) + (nI p)), .ref (mb + 1)]) rfl ?_
      refine mw_iast X (I1 := md_I Γ mb (upd (mo_note W 1 y) (37 + p) ((W (37 + p)) + (mw_sz 1))) ρ) (37 + p) (by simp only [nI_add, pk_mul]) rfl (fun H h => ⟨md_A1, _, _, h.2.1, by omega, by decide, fun H1 o c => h.stw o c⟩) ?_
      obtain ⟨G, hG⟩ : ∃ G, G = mo_houseGot W p 1 y := ⟨_, rfl⟩
      rw [show upd (mo_note W 1 y) (37 + p) ((W (37 + p)) + (mw_sz 1)) = G from hG.symm]
      have hiG : iv (c + 25) G := by rw [hG]; exact iv_got hv hp
      refine mw_steps X 1 (pc' := 46) (lv' := [(0, .ref mb), (1, .int (nI p)), (2, .int name), (3, .int (nI y)), (4, .int (nI 1)), (5, .int x)]) (st' := [.int (nI 1)]) rfl ?_
      refine mw_if_eq X 55 rfl rfl (fun c46 => absurd c46 (by decide)) (fun c46 => ?_)
      refine mw_steps X 2 (pc' := 52) (lv' := [(0, .ref mb), (1, .int (nI p)), (2, .int name), (3, .int (nI y)), (4, .int (nI 1)), (5, .int x)]) (st' := [.int (nI 3), .int (nI 1)]) rfl ?_
      refine mw_icmp_le X 79 rfl rfl (fun c52 => ?_) (fun c52 => absurd (by decide) c52)
      rw [show G = mo_new G p 1 y from by first | exact (ml_new_k (by decide)).symm | exact (ml_new_n c63).symm | exact (ml_new_y (by decide) c63).symm]
      have hiN : iv (c + 24) (mo_new G p 1 y) := iv_new hiG hp
      obtain ⟨N, hN⟩ : ∃ N, N = mo_new G p 1 y := ⟨_, rfl⟩
      rw [← hN] at hiN ⊢
      refine mw_steps X 1 (pc' := 81) (lv' := [(0, .ref mb), (1, .int (nI p)), (2, .int name), (3, .int (nI y)), (4, .int (nI 1)), (5, .int x)]) (st' := [.int (nI 1)]) rfl ?_
      refine mw_tsIn X 1 rfl (by decide) 131 rfl (by decide) rfl rfl ?_
      refine mw_steps X 5 (pc' := 137) (lv' := [(0, .ref mb), (1, .int (nI p)), (2, .int name), (3, .int (nI y)), (4, .int (nI 1)), (5, .int x)]) (st' := [.int x, .int (nI 2), .int (nI p), .int (nI 1), .ref mb]) rfl ?_
      refine mw_cV4v X kd_X5_goes kv_X5_goes kl_X5_47 (ci := 5) rfl rfl (Nat.le_of_ble_eq_true rfl) ⟨Nat.le_of_ble_eq_true rfl, Nat.le_of_ble_eq_true rfl⟩ ⟨Nat.le_of_ble_eq_true rfl, Nat.le_of_ble_eq_true rfl⟩ (fun _ h => h) (fun H h => ⟨⟨_, h.1⟩, cm_goes hmb h (e := 1) (k := 2) hiN.1 (by omega) hp (by omega)⟩) ?_
      refine mw_steps X 2 (pc' := 142) (lv' := [(0, .ref mb), (1, .int (nI p)), (2, .int name), (3, .int (nI y)), (4, .int (nI 1)), (5, .int x)]) (st' := [.int (nI p), .ref mb]) rfl ?_
      refine mw_cV1v X kd_X5_challengeOnce kv_X5_challengeOnce kl_X5_61 (ci := 5) rfl rfl (Nat.le_of_ble_eq_true rfl) ⟨Nat.le_of_ble_eq_true rfl, Nat.le_of_ble_eq_true rfl⟩ ⟨Nat.le_of_ble_eq_true rfl, Nat.le_of_ble_eq_true rfl⟩ (fun _ h => h) (fun H h => ⟨⟨_, h.1⟩, cm_once hmb h (iv_goes (c := c + 23) hiN (e := 1) (k := 2) (by omega) hp (by omega) (iv_v1 _ _ _ (by omega) (by omega) (by omega))) hp⟩) ?_
      refine mw_steps X 3 (pc' := 179) (lv' := [(0, .ref mb), (1, .int (nI p)), (2, .int name), (3, .int (nI y)), (4, .int (nI 1)), (5, .int x)]) (st' := [.int (nI p), .ref mb]) rfl ?_
      rw [show mo_once (mo_goes N 1 p 2 x) p = mo_houseBy N p 1 name x from Eq.symm (ml_hb1)]
      refine mw_cV1v X kd_X5_letOut kv_X5_letOut kl_X5_65 (ci := 5) rfl rfl (Nat.le_of_ble_eq_true rfl) ⟨Nat.le_of_ble_eq_true rfl, Nat.le_of_ble_eq_true rfl⟩ ⟨Nat.le_of_ble_eq_true rfl, Nat.le_of_ble_eq_true rfl⟩ (fun _ h => h) (fun H h => ⟨⟨_, h.1⟩, cm_letOut hmb h (c := c) (iv_houseBy (c := c + 12) hiN hp (by omega) hvx) hp⟩) ?_
      refine mw_steps X 1 (pc' := 183) (lv' := [(0, .ref mb), (1, .int (nI p)), (2, .int name), (3, .int (nI y)), (4, .int (nI 1)), (5, .int x)]) (st' := [.int (nI 0)]) rfl ?_
      exact mw_iret X rfl rfl (fun H h => ⟨by rw [(ml_house_0 (p := p) (k := 1) (x := x) (mo_b_nz c5) (mo_b_z c16)).1], by rw [(ml_house_0 (mo_b_nz c5) (mo_b_z c16)).2, ← hG, ← hN]; exact h⟩)
    · refine mw_steps X 1 (pc' := 20) (lv' := [(0, .ref mb), (1, .int (nI p)), (2, .int name), (3, .int (nI y)), (4, .int (nI 1)), (5, .int x)]) (st' := [.int (nI 3)]) rfl ?_
      exact mw_iret X rfl rfl (fun H h => ⟨by rw [(ml_house_3 (p := p) (k := 1) (x := x) (mo_b_nz c5) (mo_b_nz c16)).1], by rw [(ml_house_3 (p := p) (k := 1) (x := x) (mo_b_nz c5) (mo_b_nz c16)).2]; exact h⟩)
  · refine mw_steps X 1 (pc' := 9) (lv' := [(0, .ref mb), (1, .int (nI p)), (2, .int name), (3, .int (nI y)), (4, .int (nI 1)), (5, .int x)]) (st' := [.int (nI 1)]) rfl ?_
    exact mw_iret X rfl rfl (fun H h => ⟨by rw [(ml_house_1 (p := p) (y := y) (k := 1) (x := x) (mo_b_z c5)).1], by rw [(ml_house_1 (p := p) (y := y) (k := 1) (x := x) (mo_b_z c5)).2]; exact h⟩)
set_option maxHeartbeats 4000000 in
set_option maxRecDepth 20000 in
theorem cm_house2 {l : Launch} {Γ : mw_C} {mb : Nat} (hmb : Γ.2.2.2 ≤ mb) {W : Nat → Int32} {ρ : md_R} {H : Heap} {p y c : Nat} {name x : Int32} (hH : md_I Γ mb W ρ H) (hv : iv (c + 25) W) (hp : p < 5) (hy : y < 32768) (hvx : iv_v 0 2 x) : mw_Cr l Γ mX5_takenByHouse 7 0 0 (md_A mb) [.ref mb, .int (nI p), .int name, .int (nI y), .int (nI 2), .int x] H (some (.int (nI (mo_houseWhy W name y)))) (md_I Γ mb (mo_house W p name y 2 x) ρ) := by
  refine mw_ofG (P := pX5_takenByHouse) (by decide) (md_As hmb) oX5_takenByHouse (Nat.le_of_ble_eq_true rfl) ?_
  intro pg e0 sg mg below meth cd X hs
  refine mw_pre (I' := md_I Γ mb W ρ) (fun H1 h1 => by rw [h1]; exact hH) ?_
  refine mw_steps X 2 (pc' := 2) (lv' := [(0, .ref mb), (1, .int (nI p)), (2, .int name), (3, .int (nI y)), (4, .int (nI 2)), (5, .int x)]) (st' := [.int name, .ref mb]) rfl ?_
  refine mw_cV1r X kd_X5_isLive kv_X5_isLive kl_X5_72 (ci := 5) rfl rfl (Nat.le_of_ble_eq_true rfl) ⟨Nat.le_of_ble_eq_true rfl, Nat.le_of_ble_eq_true rfl⟩ ⟨Nat.le_of_ble_eq_true rfl, Nat.le_of_ble_eq_true rfl⟩ (fun _ h => h) (fun H h => ⟨⟨_, h.1⟩, cm_isLive hmb h hv⟩) ?_
  refine mw_if_ne X 10 rfl rfl (fun c5 => ?_) (fun c5 => ?_)
  · refine mw_steps X 3 (pc' := 13) (lv' := [(0, .ref mb), (1, .int (nI p)), (2, .int name), (3, .int (nI y)), (4, .int (nI 2)), (5, .int x)]) (st' := [.int (nI y), .int (nI 1), .ref mb]) rfl ?_
    refine mw_cV2r X kd_X5_took kv_X5_took kl_X5_76 (ci := 5) rfl rfl (Nat.le_of_ble_eq_true rfl) ⟨Nat.le_of_ble_eq_true rfl, Nat.le_of_ble_eq_true rfl⟩ ⟨Nat.le_of_ble_eq_true rfl, Nat.le_of_ble_eq_true rfl⟩ (fun _ h => h) (fun H h => ⟨⟨_, h.1⟩, cm_took hmb h (e := 1) (by omega) hy⟩) ?_
    refine mw_if_eq X 21 rfl rfl (fun c16 => ?_) (fun c16 => ?_)
    · refine mw_steps X 3 (pc' := 24) (lv' := [(0, .ref mb), (1, .int (nI p)), (2, .int name), (3, .int (nI y)), (4, .int (nI 2)), (5, .int x)]) (st' := [.int (nI y), .int (nI 1), .ref mb]) rfl ?_
      refine mw_cV2v X kd_X5_note kv_X5_note kl_X5_79 (ci := 5) rfl rfl (Nat.le_of_ble_eq_true rfl) ⟨Nat.le_of_ble_eq_true rfl, Nat.le_of_ble_eq_true rfl⟩ ⟨Nat.le_of_ble_eq_true rfl, Nat.le_of_ble_eq_true rfl⟩ (fun _ h => h) (fun H h => ⟨⟨_, h.1⟩, cm_note hmb h (e := 1) (by omega) hy⟩) ?_
      have hn37 : mo_note W 1 y (37 + p) = W (37 + p) := pk_un (by omega)
      refine mw_steps X 1 (pc' := 28) (lv' := [(0, .ref mb), (1, .int (nI p)), (2, .int name), (3, .int (nI y)), (4, .int (nI 2)), (5, .int x)]) (st' := [.ref mb]) rfl ?_
      refine mw_get X kf_X5_7.fl kc_5 rfl (v := .ref (mb + 1)) (fun H h => ⟨_, h.1, rfl⟩) ?_
      refine mw_steps X 4 (pc' := 36) (lv' := [(0, .ref mb), (1, .int (nI p)), (2, .int name), (3, .int (nI y)), (4, .int (nI 2)), (5, .int x)]) (st' := [.int ((nI 37) + (nI p)), .ref (mb + 1), .int ((nI 37) + (nI p)), .ref (mb + 1)]) rfl ?_
      refine mw_iald X (v := W (37 + p)) (37 + p) (by simp only [nI_add, pk_mul]) rfl (fun H h => ⟨_, _, h.2.1, by omega, by decide, hn37⟩) ?_
      refine mw_steps X 1 (pc' := 39) (lv' := [(0, .ref mb), (1, .int (nI p)), (2, .int name), (3, .int (nI y)), (4, .int (nI 2)), (5, .int x)]) (st' := [.int (nI 2), .int (W (37 + p)), .int ((nI 37) + (nI p)), .ref (mb + 1)]) rfl ?_
      refine mw_cS1r X kd_X5_sizeOf ks_X5_sizeOf kl_X5_25 rfl (Nat.le_of_ble_eq_true rfl) ⟨Nat.le_of_ble_eq_true rfl, Nat.le_of_ble_eq_true rfl⟩ ⟨Nat.le_of_ble_eq_true rfl, Nat.le_of_ble_eq_true rfl⟩ (fun _ h => h) (fun H h => cm_sizeOf hmb (k := 2) (by omega) h) ?_
      refine mw_steps X 1 (pc' := 43) (lv' := [(0, .ref mb), (1, .int (nI p)), (2, .int name), (3, .int (nI y)), (4, .int (nI 2)), (5, .int x)]) (st' := [.int ((W (37 + p)) + (mw_sz 2)), .int ((nI 37) + (nI p)), .ref (mb + 1)]) rfl ?_
      refine mw_iast X (I1 := md_I Γ mb (upd (mo_note W 1 y) (37 + p) ((W (37 + p)) + (mw_sz 2))) ρ) (37 + p) (by simp only [nI_add, pk_mul]) rfl (fun H h => ⟨md_A1, _, _, h.2.1, by omega, by decide, fun H1 o c => h.stw o c⟩) ?_
      obtain ⟨G, hG⟩ : ∃ G, G = mo_houseGot W p 2 y := ⟨_, rfl⟩
      rw [show upd (mo_note W 1 y) (37 + p) ((W (37 + p)) + (mw_sz 2)) = G from hG.symm]
      have hiG : iv (c + 25) G := by rw [hG]; exact iv_got hv hp
      refine mw_steps X 1 (pc' := 46) (lv' := [(0, .ref mb), (1, .int (nI p)), (2, .int name), (3, .int (nI y)), (4, .int (nI 2)), (5, .int x)]) (st' := [.int (nI 2)]) rfl ?_
      refine mw_if_eq X 55 rfl rfl (fun c46 => absurd c46 (by decide)) (fun c46 => ?_)
      refine mw_steps X 2 (pc' := 52) (lv' := [(0, .ref mb), (1, .int (nI p)), (2, .int name), (3, .int (nI y)), (4, .int (nI 2)), (5, .int x)]) (st' := [.int (nI 3), .int (nI 2)]) rfl ?_
      refine mw_icmp_le X 79 rfl rfl (fun c52 => ?_) (fun c52 => absurd (by decide) c52)
      rw [show G = mo_new G p 2 y from by first | exact (ml_new_k (by decide)).symm | exact (ml_new_n c63).symm | exact (ml_new_y (by decide) c63).symm]
      have hiN : iv (c + 24) (mo_new G p 2 y) := iv_new hiG hp
      obtain ⟨N, hN⟩ : ∃ N, N = mo_new G p 2 y := ⟨_, rfl⟩
      rw [← hN] at hiN ⊢
      refine mw_steps X 1 (pc' := 81) (lv' := [(0, .ref mb), (1, .int (nI p)), (2, .int name), (3, .int (nI y)), (4, .int (nI 2)), (5, .int x)]) (st' := [.int (nI 2)]) rfl ?_
      refine mw_tsIn X 2 rfl (by decide) 148 rfl (by decide) rfl rfl ?_
      refine mw_steps X 2 (pc' := 151) (lv' := [(0, .ref mb), (1, .int (nI p)), (2, .int name), (3, .int (nI y)), (4, .int (nI 2)), (5, .int x)]) (st' := [.int x, .ref mb]) rfl ?_
      refine mw_cV1v X kd_X5_proveBy kv_X5_proveBy kl_X5_89 (ci := 5) rfl rfl (Nat.le_of_ble_eq_true rfl) ⟨Nat.le_of_ble_eq_true rfl, Nat.le_of_ble_eq_true rfl⟩ ⟨Nat.le_of_ble_eq_true rfl, Nat.le_of_ble_eq_true rfl⟩ (fun _ h => h) (fun H h => ⟨⟨_, h.1⟩, cm_prove hmb h (c := c + 12) hiN⟩) ?_
      refine mw_steps X 3 (pc' := 179) (lv' := [(0, .ref mb), (1, .int (nI p)), (2, .int name), (3, .int (nI y)), (4, .int (nI 2)), (5, .int x)]) (st' := [.int (nI p), .ref mb]) rfl ?_
      rw [show mo_prove N x = mo_houseBy N p 2 name x from Eq.symm (ml_hb2)]
      refine mw_cV1v X kd_X5_letOut kv_X5_letOut kl_X5_65 (ci := 5) rfl rfl (Nat.le_of_ble_eq_true rfl) ⟨Nat.le_of_ble_eq_true rfl, Nat.le_of_ble_eq_true rfl⟩ ⟨Nat.le_of_ble_eq_true rfl, Nat.le_of_ble_eq_true rfl⟩ (fun _ h => h) (fun H h => ⟨⟨_, h.1⟩, cm_letOut hmb h (c := c) (iv_houseBy (c := c + 12) hiN hp (by omega) hvx) hp⟩) ?_
      refine mw_steps X 1 (pc' := 183) (lv' := [(0, .ref mb), (1, .int (nI p)), (2, .int name), (3, .int (nI y)), (4, .int (nI 2)), (5, .int x)]) (st' := [.int (nI 0)]) rfl ?_
      exact mw_iret X rfl rfl (fun H h => ⟨by rw [(ml_house_0 (p := p) (k := 2) (x := x) (mo_b_nz c5) (mo_b_z c16)).1], by rw [(ml_house_0 (mo_b_nz c5) (mo_b_z c16)).2, ← hG, ← hN]; exact h⟩)
    · refine mw_steps X 1 (pc' := 20) (lv' := [(0, .ref mb), (1, .int (nI p)), (2, .int name), (3, .int (nI y)), (4, .int (nI 2)), (5, .int x)]) (st' := [.int (nI 3)]) rfl ?_
      exact mw_iret X rfl rfl (fun H h => ⟨by rw [(ml_house_3 (p := p) (k := 2) (x := x) (mo_b_nz c5) (mo_b_nz c16)).1], by rw [(ml_house_3 (p := p) (k := 2) (x := x) (mo_b_nz c5) (mo_b_nz c16)).2]; exact h⟩)
  · refine mw_steps X 1 (pc' := 9) (lv' := [(0, .ref mb), (1, .int (nI p)), (2, .int name), (3, .int (nI y)), (4, .int (nI 2)), (5, .int x)]) (st' := [.int (nI 1)]) rfl ?_
    exact mw_iret X rfl rfl (fun H h => ⟨by rw [(ml_house_1 (p := p) (y := y) (k := 2) (x := x) (mo_b_z c5)).1], by rw [(ml_house_1 (p := p) (y := y) (k := 2) (x := x) (mo_b_z c5)).2]; exact h⟩)
set_option maxHeartbeats 4000000 in
set_option maxRecDepth 20000 in
theorem cm_house3 {l : Launch} {Γ : mw_C} {mb : Nat} (hmb : Γ.2.2.2 ≤ mb) {W : Nat → Int32} {ρ : md_R} {H : Heap} {p y c : Nat} {name x : Int32} (hH : md_I Γ mb W ρ H) (hv : iv (c + 25) W) (hp : p < 5) (hy : y < 32768) (hvx : iv_v 0 3 x) : mw_Cr l Γ mX5_takenByHouse 7 0 0 (md_A mb) [.ref mb, .int (nI p), .int name, .int (nI y), .int (nI 3), .int x] H (some (.int (nI (mo_houseWhy W name y)))) (md_I Γ mb (mo_house W p name y 3 x) ρ) := by
  refine mw_ofG (P := pX5_takenByHouse) (by decide) (md_As hmb) oX5_takenByHouse (Nat.le_of_ble_eq_true rfl) ?_
  intro pg e0 sg mg below meth cd X hs
  refine mw_pre (I' := md_I Γ mb W ρ) (fun H1 h1 => by rw [h1]; exact hH) ?_
  refine mw_steps X 2 (pc' := 2) (lv' := [(0, .ref mb), (1, .int (nI p)), (2, .int name), (3, .int (nI y)), (4, .int (nI 3)), (5, .int x)]) (st' := [.int name, .ref mb]) rfl ?_
  refine mw_cV1r X kd_X5_isLive kv_X5_isLive kl_X5_72 (ci := 5) rfl rfl (Nat.le_of_ble_eq_true rfl) ⟨Nat.le_of_ble_eq_true rfl, Nat.le_of_ble_eq_true rfl⟩ ⟨Nat.le_of_ble_eq_true rfl, Nat.le_of_ble_eq_true rfl⟩ (fun _ h => h) (fun H h => ⟨⟨_, h.1⟩, cm_isLive hmb h hv⟩) ?_
  refine mw_if_ne X 10 rfl rfl (fun c5 => ?_) (fun c5 => ?_)
  · refine mw_steps X 3 (pc' := 13) (lv' := [(0, .ref mb), (1, .int (nI p)), (2, .int name), (3, .int (nI y)), (4, .int (nI 3)), (5, .int x)]) (st' := [.int (nI y), .int (nI 1), .ref mb]) rfl ?_
    refine mw_cV2r X kd_X5_took kv_X5_took kl_X5_76 (ci := 5) rfl rfl (Nat.le_of_ble_eq_true rfl) ⟨Nat.le_of_ble_eq_true rfl, Nat.le_of_ble_eq_true rfl⟩ ⟨Nat.le_of_ble_eq_true rfl, Nat.le_of_ble_eq_true rfl⟩ (fun _ h => h) (fun H h => ⟨⟨_, h.1⟩, cm_took hmb h (e := 1) (by omega) hy⟩) ?_
    refine mw_if_eq X 21 rfl rfl (fun c16 => ?_) (fun c16 => ?_)
    · refine mw_steps X 3 (pc' := 24) (lv' := [(0, .ref mb), (1, .int (nI p)), (2, .int name), (3, .int (nI y)), (4, .int (nI 3)), (5, .int x)]) (st' := [.int (nI y), .int (nI 1), .ref mb]) rfl ?_
      refine mw_cV2v X kd_X5_note kv_X5_note kl_X5_79 (ci := 5) rfl rfl (Nat.le_of_ble_eq_true rfl) ⟨Nat.le_of_ble_eq_true rfl, Nat.le_of_ble_eq_true rfl⟩ ⟨Nat.le_of_ble_eq_true rfl, Nat.le_of_ble_eq_true rfl⟩ (fun _ h => h) (fun H h => ⟨⟨_, h.1⟩, cm_note hmb h (e := 1) (by omega) hy⟩) ?_
      have hn37 : mo_note W 1 y (37 + p) = W (37 + p) := pk_un (by omega)
      refine mw_steps X 1 (pc' := 28) (lv' := [(0, .ref mb), (1, .int (nI p)), (2, .int name), (3, .int (nI y)), (4, .int (nI 3)), (5, .int x)]) (st' := [.ref mb]) rfl ?_
      refine mw_get X kf_X5_7.fl kc_5 rfl (v := .ref (mb + 1)) (fun H h => ⟨_, h.1, rfl⟩) ?_
      refine mw_steps X 4 (pc' := 36) (lv' := [(0, .ref mb), (1, .int (nI p)), (2, .int name), (3, .int (nI y)), (4, .int (nI 3)), (5, .int x)]) (st' := [.int ((nI 37) + (nI p)), .ref (mb + 1), .int ((nI 37) + (nI p)), .ref (mb + 1)]) rfl ?_
      refine mw_iald X (v := W (37 + p)) (37 + p) (by simp only [nI_add, pk_mul]) rfl (fun H h => ⟨_, _, h.2.1, by omega, by decide, hn37⟩) ?_
      refine mw_steps X 1 (pc' := 39) (lv' := [(0, .ref mb), (1, .int (nI p)), (2, .int name), (3, .int (nI y)), (4, .int (nI 3)), (5, .int x)]) (st' := [.int (nI 3), .int (W (37 + p)), .int ((nI 37) + (nI p)), .ref (mb + 1)]) rfl ?_
      refine mw_cS1r X kd_X5_sizeOf ks_X5_sizeOf kl_X5_25 rfl (Nat.le_of_ble_eq_true rfl) ⟨Nat.le_of_ble_eq_true rfl, Nat.le_of_ble_eq_true rfl⟩ ⟨Nat.le_of_ble_eq_true rfl, Nat.le_of_ble_eq_true rfl⟩ (fun _ h => h) (fun H h => cm_sizeOf hmb (k := 3) (by omega) h) ?_
      refine mw_steps X 1 (pc' := 43) (lv' := [(0, .ref mb), (1, .int (nI p)), (2, .int name), (3, .int (nI y)), (4, .int (nI 3)), (5, .int x)]) (st' := [.int ((W (37 + p)) + (mw_sz 3)), .int ((nI 37) + (nI p)), .ref (mb + 1)]) rfl ?_
      refine mw_iast X (I1 := md_I Γ mb (upd (mo_note W 1 y) (37 + p) ((W (37 + p)) + (mw_sz 3))) ρ) (37 + p) (by simp only [nI_add, pk_mul]) rfl (fun H h => ⟨md_A1, _, _, h.2.1, by omega, by decide, fun H1 o c => h.stw o c⟩) ?_
      obtain ⟨G, hG⟩ : ∃ G, G = mo_houseGot W p 3 y := ⟨_, rfl⟩
      rw [show upd (mo_note W 1 y) (37 + p) ((W (37 + p)) + (mw_sz 3)) = G from hG.symm]
      have hiG : iv (c + 25) G := by rw [hG]; exact iv_got hv hp
      refine mw_steps X 1 (pc' := 46) (lv' := [(0, .ref mb), (1, .int (nI p)), (2, .int name), (3, .int (nI y)), (4, .int (nI 3)), (5, .int x)]) (st' := [.int (nI 3)]) rfl ?_
      refine mw_if_eq X 55 rfl rfl (fun c46 => absurd c46 (by decide)) (fun c46 => ?_)
      refine mw_steps X 2 (pc' := 52) (lv' := [(0, .ref mb), (1, .int (nI p)), (2, .int name), (3, .int (nI y)), (4, .int (nI 3)), (5, .int x)]) (st' := [.int (nI 3), .int (nI 3)]) rfl ?_
      refine mw_icmp_le X 79 rfl rfl (fun c52 => ?_) (fun c52 => absurd (by decide) c52)
      rw [show G = mo_new G p 3 y from by first | exact (ml_new_k (by decide)).symm | exact (ml_new_n c63).symm | exact (ml_new_y (by decide) c63).symm]
      have hiN : iv (c + 24) (mo_new G p 3 y) := iv_new hiG hp
      obtain ⟨N, hN⟩ : ∃ N, N = mo_new G p 3 y := ⟨_, rfl⟩
      rw [← hN] at hiN ⊢
      refine mw_steps X 1 (pc' := 81) (lv' := [(0, .ref mb), (1, .int (nI p)), (2, .int name), (3, .int (nI y)), (4, .int (nI 3)), (5, .int x)]) (st' := [.int (nI 3)]) rfl ?_
      refine mw_tsIn X 3 rfl (by decide) 177 rfl (by decide) rfl rfl ?_
      refine mw_steps X 2 (pc' := 179) (lv' := [(0, .ref mb), (1, .int (nI p)), (2, .int name), (3, .int (nI y)), (4, .int (nI 3)), (5, .int x)]) (st' := [.int (nI p), .ref mb]) rfl ?_
      rw [show N = mo_houseBy N p 3 name x from Eq.symm (ml_hb3)]
      refine mw_cV1v X kd_X5_letOut kv_X5_letOut kl_X5_65 (ci := 5) rfl rfl (Nat.le_of_ble_eq_true rfl) ⟨Nat.le_of_ble_eq_true rfl, Nat.le_of_ble_eq_true rfl⟩ ⟨Nat.le_of_ble_eq_true rfl, Nat.le_of_ble_eq_true rfl⟩ (fun _ h => h) (fun H h => ⟨⟨_, h.1⟩, cm_letOut hmb h (c := c) (iv_houseBy (c := c + 12) hiN hp (by omega) hvx) hp⟩) ?_
      refine mw_steps X 1 (pc' := 183) (lv' := [(0, .ref mb), (1, .int (nI p)), (2, .int name), (3, .int (nI y)), (4, .int (nI 3)), (5, .int x)]) (st' := [.int (nI 0)]) rfl ?_
      exact mw_iret X rfl rfl (fun H h => ⟨by rw [(ml_house_0 (p := p) (k := 3) (x := x) (mo_b_nz c5) (mo_b_z c16)).1], by rw [(ml_house_0 (mo_b_nz c5) (mo_b_z c16)).2, ← hG, ← hN]; exact h⟩)
    · refine mw_steps X 1 (pc' := 20) (lv' := [(0, .ref mb), (1, .int (nI p)), (2, .int name), (3, .int (nI y)), (4, .int (nI 3)), (5, .int x)]) (st' := [.int (nI 3)]) rfl ?_
      exact mw_iret X rfl rfl (fun H h => ⟨by rw [(ml_house_3 (p := p) (k := 3) (x := x) (mo_b_nz c5) (mo_b_nz c16)).1], by rw [(ml_house_3 (p := p) (k := 3) (x := x) (mo_b_nz c5) (mo_b_nz c16)).2]; exact h⟩)
  · refine mw_steps X 1 (pc' := 9) (lv' := [(0, .ref mb), (1, .int (nI p)), (2, .int name), (3, .int (nI y)), (4, .int (nI 3)), (5, .int x)]) (st' := [.int (nI 1)]) rfl ?_
    exact mw_iret X rfl rfl (fun H h => ⟨by rw [(ml_house_1 (p := p) (y := y) (k := 3) (x := x) (mo_b_z c5)).1], by rw [(ml_house_1 (p := p) (y := y) (k := 3) (x := x) (mo_b_z c5)).2]; exact h⟩)
set_option maxHeartbeats 4000000 in
set_option maxRecDepth 20000 in
theorem cm_house4 {l : Launch} {Γ : mw_C} {mb : Nat} (hmb : Γ.2.2.2 ≤ mb) {W : Nat → Int32} {ρ : md_R} {H : Heap} {p y c : Nat} {name x : Int32} (hH : md_I Γ mb W ρ H) (hv : iv (c + 25) W) (hp : p < 5) (hy : y < 32768) (hvx : iv_v 0 4 x) : mw_Cr l Γ mX5_takenByHouse 7 0 0 (md_A mb) [.ref mb, .int (nI p), .int name, .int (nI y), .int (nI 4), .int x] H (some (.int (nI (mo_houseWhy W name y)))) (md_I Γ mb (mo_house W p name y 4 x) ρ) := by
  refine mw_ofG (P := pX5_takenByHouse) (by decide) (md_As hmb) oX5_takenByHouse (Nat.le_of_ble_eq_true rfl) ?_
  intro pg e0 sg mg below meth cd X hs
  refine mw_pre (I' := md_I Γ mb W ρ) (fun H1 h1 => by rw [h1]; exact hH) ?_
  refine mw_steps X 2 (pc' := 2) (lv' := [(0, .ref mb), (1, .int (nI p)), (2, .int name), (3, .int (nI y)), (4, .int (nI 4)), (5, .int x)]) (st' := [.int name, .ref mb]) rfl ?_
  refine mw_cV1r X kd_X5_isLive kv_X5_isLive kl_X5_72 (ci := 5) rfl rfl (Nat.le_of_ble_eq_true rfl) ⟨Nat.le_of_ble_eq_true rfl, Nat.le_of_ble_eq_true rfl⟩ ⟨Nat.le_of_ble_eq_true rfl, Nat.le_of_ble_eq_true rfl⟩ (fun _ h => h) (fun H h => ⟨⟨_, h.1⟩, cm_isLive hmb h hv⟩) ?_
  refine mw_if_ne X 10 rfl rfl (fun c5 => ?_) (fun c5 => ?_)
  · refine mw_steps X 3 (pc' := 13) (lv' := [(0, .ref mb), (1, .int (nI p)), (2, .int name), (3, .int (nI y)), (4, .int (nI 4)), (5, .int x)]) (st' := [.int (nI y), .int (nI 1), .ref mb]) rfl ?_
    refine mw_cV2r X kd_X5_took kv_X5_took kl_X5_76 (ci := 5) rfl rfl (Nat.le_of_ble_eq_true rfl) ⟨Nat.le_of_ble_eq_true rfl, Nat.le_of_ble_eq_true rfl⟩ ⟨Nat.le_of_ble_eq_true rfl, Nat.le_of_ble_eq_true rfl⟩ (fun _ h => h) (fun H h => ⟨⟨_, h.1⟩, cm_took hmb h (e := 1) (by omega) hy⟩) ?_
    refine mw_if_eq X 21 rfl rfl (fun c16 => ?_) (fun c16 => ?_)
    · refine mw_steps X 3 (pc' := 24) (lv' := [(0, .ref mb), (1, .int (nI p)), (2, .int name), (3, .int (nI y)), (4, .int (nI 4)), (5, .int x)]) (st' := [.int (nI y), .int (nI 1), .ref mb]) rfl ?_
      refine mw_cV2v X kd_X5_note kv_X5_note kl_X5_79 (ci := 5) rfl rfl (Nat.le_of_ble_eq_true rfl) ⟨Nat.le_of_ble_eq_true rfl, Nat.le_of_ble_eq_true rfl⟩ ⟨Nat.le_of_ble_eq_true rfl, Nat.le_of_ble_eq_true rfl⟩ (fun _ h => h) (fun H h => ⟨⟨_, h.1⟩, cm_note hmb h (e := 1) (by omega) hy⟩) ?_
      have hn37 : mo_note W 1 y (37 + p) = W (37 + p) := pk_un (by omega)
      refine mw_steps X 1 (pc' := 28) (lv' := [(0, .ref mb), (1, .int (nI p)), (2, .int name), (3, .int (nI y)), (4, .int (nI 4)), (5, .int x)]) (st' := [.ref mb]) rfl ?_
      refine mw_get X kf_X5_7.fl kc_5 rfl (v := .ref (mb + 1)) (fun H h => ⟨_, h.1, rfl⟩) ?_
      refine mw_steps X 4 (pc' := 36) (lv' := [(0, .ref mb), (1, .int (nI p)), (2, .int name), (3, .int (nI y)), (4, .int (nI 4)), (5, .int x)]) (st' := [.int ((nI 37) + (nI p)), .ref (mb + 1), .int ((nI 37) + (nI p)), .ref (mb + 1)]) rfl ?_
      refine mw_iald X (v := W (37 + p)) (37 + p) (by simp only [nI_add, pk_mul]) rfl (fun H h => ⟨_, _, h.2.1, by omega, by decide, hn37⟩) ?_
      refine mw_steps X 1 (pc' := 39) (lv' := [(0, .ref mb), (1, .int (nI p)), (2, .int name), (3, .int (nI y)), (4, .int (nI 4)), (5, .int x)]) (st' := [.int (nI 4), .int (W (37 + p)), .int ((nI 37) + (nI p)), .ref (mb + 1)]) rfl ?_
      refine mw_cS1r X kd_X5_sizeOf ks_X5_sizeOf kl_X5_25 rfl (Nat.le_of_ble_eq_true rfl) ⟨Nat.le_of_ble_eq_true rfl, Nat.le_of_ble_eq_true rfl⟩ ⟨Nat.le_of_ble_eq_true rfl, Nat.le_of_ble_eq_true rfl⟩ (fun _ h => h) (fun H h => cm_sizeOf hmb (k := 4) (by omega) h) ?_
      refine mw_steps X 1 (pc' := 43) (lv' := [(0, .ref mb), (1, .int (nI p)), (2, .int name), (3, .int (nI y)), (4, .int (nI 4)), (5, .int x)]) (st' := [.int ((W (37 + p)) + (mw_sz 4)), .int ((nI 37) + (nI p)), .ref (mb + 1)]) rfl ?_
      refine mw_iast X (I1 := md_I Γ mb (upd (mo_note W 1 y) (37 + p) ((W (37 + p)) + (mw_sz 4))) ρ) (37 + p) (by simp only [nI_add, pk_mul]) rfl (fun H h => ⟨md_A1, _, _, h.2.1, by omega, by decide, fun H1 o c => h.stw o c⟩) ?_
      obtain ⟨G, hG⟩ : ∃ G, G = mo_houseGot W p 4 y := ⟨_, rfl⟩
      rw [show upd (mo_note W 1 y) (37 + p) ((W (37 + p)) + (mw_sz 4)) = G from hG.symm]
      have hiG : iv (c + 25) G := by rw [hG]; exact iv_got hv hp
      refine mw_steps X 1 (pc' := 46) (lv' := [(0, .ref mb), (1, .int (nI p)), (2, .int name), (3, .int (nI y)), (4, .int (nI 4)), (5, .int x)]) (st' := [.int (nI 4)]) rfl ?_
      refine mw_if_eq X 55 rfl rfl (fun c46 => absurd c46 (by decide)) (fun c46 => ?_)
      refine mw_steps X 2 (pc' := 52) (lv' := [(0, .ref mb), (1, .int (nI p)), (2, .int name), (3, .int (nI y)), (4, .int (nI 4)), (5, .int x)]) (st' := [.int (nI 3), .int (nI 4)]) rfl ?_
      refine mw_icmp_le X 79 rfl rfl (fun c52 => absurd c52 (by decide)) (fun c52 => ?_)
      refine mw_steps X 2 (pc' := 57) (lv' := [(0, .ref mb), (1, .int (nI p)), (2, .int name), (3, .int (nI y)), (4, .int (nI 4)), (5, .int x)]) (st' := [.ref mb, .int (nI y)]) rfl ?_
      refine mw_get X kf_X5_7.fl kc_5 rfl (v := .ref (mb + 1)) (fun H h => ⟨_, h.1, rfl⟩) ?_
      refine mw_steps X 1 (pc' := 62) (lv' := [(0, .ref mb), (1, .int (nI p)), (2, .int name), (3, .int (nI y)), (4, .int (nI 4)), (5, .int x)]) (st' := [.int (nI 6), .ref (mb + 1), .int (nI y)]) rfl ?_
      refine mw_iald X (v := G (6)) (6) rfl rfl (fun H h => ⟨_, _, h.2.1, by omega, by decide, rfl⟩) ?_
      refine mw_icmp_le X 79 rfl rfl (fun c63 => ?_) (fun c63 => ?_)
      · rw [show G = mo_new G p 4 y from by first | exact (ml_new_k (by decide)).symm | exact (ml_new_n c63).symm | exact (ml_new_y (by decide) c63).symm]
        have hiN : iv (c + 24) (mo_new G p 4 y) := iv_new hiG hp
        obtain ⟨N, hN⟩ : ∃ N, N = mo_new G p 4 y := ⟨_, rfl⟩
        rw [← hN] at hiN ⊢
        refine mw_steps X 1 (pc' := 81) (lv' := [(0, .ref mb), (1, .int (nI p)), (2, .int name), (3, .int (nI y)), (4, .int (nI 4)), (5, .int x)]) (st' := [.int (nI 4)]) rfl ?_
        refine mw_tsIn X 4 rfl (by decide) 157 rfl (by decide) rfl rfl ?_
        refine mw_steps X 3 (pc' := 161) (lv' := [(0, .ref mb), (1, .int (nI p)), (2, .int name), (3, .int (nI y)), (4, .int (nI 4)), (5, .int x)]) (st' := [.int name, .int x, .ref mb]) rfl ?_
        refine mw_cV2v X kd_X5_retire kv_X5_retire kl_X5_92 (ci := 5) rfl rfl (Nat.le_of_ble_eq_true rfl) ⟨Nat.le_of_ble_eq_true rfl, Nat.le_of_ble_eq_true rfl⟩ ⟨Nat.le_of_ble_eq_true rfl, Nat.le_of_ble_eq_true rfl⟩ (fun _ h => h) (fun H h => ⟨⟨_, h.1⟩, cm_retire hmb h hiN⟩) ?_
        refine mw_steps X 3 (pc' := 179) (lv' := [(0, .ref mb), (1, .int (nI p)), (2, .int name), (3, .int (nI y)), (4, .int (nI 4)), (5, .int x)]) (st' := [.int (nI p), .ref mb]) rfl ?_
        rw [show mo_retire N x name = mo_houseBy N p 4 name x from Eq.symm (ml_hb4)]
        refine mw_cV1v X kd_X5_letOut kv_X5_letOut kl_X5_65 (ci := 5) rfl rfl (Nat.le_of_ble_eq_true rfl) ⟨Nat.le_of_ble_eq_true rfl, Nat.le_of_ble_eq_true rfl⟩ ⟨Nat.le_of_ble_eq_true rfl, Nat.le_of_ble_eq_true rfl⟩ (fun _ h => h) (fun H h => ⟨⟨_, h.1⟩, cm_letOut hmb h (c := c) (iv_houseBy (c := c + 12) hiN hp (by omega) hvx) hp⟩) ?_
        refine mw_steps X 1 (pc' := 183) (lv' := [(0, .ref mb), (1, .int (nI p)), (2, .int name), (3, .int (nI y)), (4, .int (nI 4)), (5, .int x)]) (st' := [.int (nI 0)]) rfl ?_
        exact mw_iret X rfl rfl (fun H h => ⟨by rw [(ml_house_0 (p := p) (k := 4) (x := x) (mo_b_nz c5) (mo_b_z c16)).1], by rw [(ml_house_0 (mo_b_nz c5) (mo_b_z c16)).2, ← hG, ← hN]; exact h⟩)
      · refine mw_steps X 1 (pc' := 67) (lv' := [(0, .ref mb), (1, .int (nI p)), (2, .int name), (3, .int (nI y)), (4, .int (nI 4)), (5, .int x)]) (st' := [.ref mb]) rfl ?_
        refine mw_get X kf_X5_7.fl kc_5 rfl (v := .ref (mb + 1)) (fun H h => ⟨_, h.1, rfl⟩) ?_
        refine mw_steps X 2 (pc' := 73) (lv' := [(0, .ref mb), (1, .int (nI p)), (2, .int name), (3, .int (nI y)), (4, .int (nI 4)), (5, .int x)]) (st' := [.int (nI y), .int (nI 6), .ref (mb + 1)]) rfl ?_
        refine mw_iast X (I1 := md_I Γ mb (upd G (6) (nI y)) ρ) (6) rfl rfl (fun H h => ⟨md_A1, _, _, h.2.1, by omega, by decide, fun H1 o c => h.stw o c⟩) ?_
        refine mw_steps X 2 (pc' := 76) (lv' := [(0, .ref mb), (1, .int (nI p)), (2, .int name), (3, .int (nI y)), (4, .int (nI 4)), (5, .int x)]) (st' := [.int (nI p), .ref mb]) rfl ?_
        refine mw_cV1v X kd_X5_follow kv_X5_follow kl_X5_82 (ci := 5) rfl rfl (Nat.le_of_ble_eq_true rfl) ⟨Nat.le_of_ble_eq_true rfl, Nat.le_of_ble_eq_true rfl⟩ ⟨Nat.le_of_ble_eq_true rfl, Nat.le_of_ble_eq_true rfl⟩ (fun _ h => h) (fun H h => ⟨⟨_, h.1⟩, cm_follow hmb h (hiG.free (fun j a => pk_un (by omega))) hp⟩) ?_
        rw [show mo_follow (upd G 6 (nI y)) p = mo_new G p 4 y from by first | exact (ml_new_k (by decide)).symm | exact (ml_new_n c63).symm | exact (ml_new_y (by decide) c63).symm]
        have hiN : iv (c + 24) (mo_new G p 4 y) := iv_new hiG hp
        obtain ⟨N, hN⟩ : ∃ N, N = mo_new G p 4 y := ⟨_, rfl⟩
        rw [← hN] at hiN ⊢
        refine mw_steps X 1 (pc' := 81) (lv' := [(0, .ref mb), (1, .int (nI p)), (2, .int name), (3, .int (nI y)), (4, .int (nI 4)), (5, .int x)]) (st' := [.int (nI 4)]) rfl ?_
        refine mw_tsIn X 4 rfl (by decide) 157 rfl (by decide) rfl rfl ?_
        refine mw_steps X 3 (pc' := 161) (lv' := [(0, .ref mb), (1, .int (nI p)), (2, .int name), (3, .int (nI y)), (4, .int (nI 4)), (5, .int x)]) (st' := [.int name, .int x, .ref mb]) rfl ?_
        refine mw_cV2v X kd_X5_retire kv_X5_retire kl_X5_92 (ci := 5) rfl rfl (Nat.le_of_ble_eq_true rfl) ⟨Nat.le_of_ble_eq_true rfl, Nat.le_of_ble_eq_true rfl⟩ ⟨Nat.le_of_ble_eq_true rfl, Nat.le_of_ble_eq_true rfl⟩ (fun _ h => h) (fun H h => ⟨⟨_, h.1⟩, cm_retire hmb h hiN⟩) ?_
        refine mw_steps X 3 (pc' := 179) (lv' := [(0, .ref mb), (1, .int (nI p)), (2, .int name), (3, .int (nI y)), (4, .int (nI 4)), (5, .int x)]) (st' := [.int (nI p), .ref mb]) rfl ?_
        rw [show mo_retire N x name = mo_houseBy N p 4 name x from Eq.symm (ml_hb4)]
        refine mw_cV1v X kd_X5_letOut kv_X5_letOut kl_X5_65 (ci := 5) rfl rfl (Nat.le_of_ble_eq_true rfl) ⟨Nat.le_of_ble_eq_true rfl, Nat.le_of_ble_eq_true rfl⟩ ⟨Nat.le_of_ble_eq_true rfl, Nat.le_of_ble_eq_true rfl⟩ (fun _ h => h) (fun H h => ⟨⟨_, h.1⟩, cm_letOut hmb h (c := c) (iv_houseBy (c := c + 12) hiN hp (by omega) hvx) hp⟩) ?_
        refine mw_steps X 1 (pc' := 183) (lv' := [(0, .ref mb), (1, .int (nI p)), (2, .int name), (3, .int (nI y)), (4, .int (nI 4)), (5, .int x)]) (st' := [.int (nI 0)]) rfl ?_
        exact mw_iret X rfl rfl (fun H h => ⟨by rw [(ml_house_0 (p := p) (k := 4) (x := x) (mo_b_nz c5) (mo_b_z c16)).1], by rw [(ml_house_0 (mo_b_nz c5) (mo_b_z c16)).2, ← hG, ← hN]; exact h⟩)
    · refine mw_steps X 1 (pc' := 20) (lv' := [(0, .ref mb), (1, .int (nI p)), (2, .int name), (3, .int (nI y)), (4, .int (nI 4)), (5, .int x)]) (st' := [.int (nI 3)]) rfl ?_
      exact mw_iret X rfl rfl (fun H h => ⟨by rw [(ml_house_3 (p := p) (k := 4) (x := x) (mo_b_nz c5) (mo_b_nz c16)).1], by rw [(ml_house_3 (p := p) (k := 4) (x := x) (mo_b_nz c5) (mo_b_nz c16)).2]; exact h⟩)
  · refine mw_steps X 1 (pc' := 9) (lv' := [(0, .ref mb), (1, .int (nI p)), (2, .int name), (3, .int (nI y)), (4, .int (nI 4)), (5, .int x)]) (st' := [.int (nI 1)]) rfl ?_
    exact mw_iret X rfl rfl (fun H h => ⟨by rw [(ml_house_1 (p := p) (y := y) (k := 4) (x := x) (mo_b_z c5)).1], by rw [(ml_house_1 (p := p) (y := y) (k := 4) (x := x) (mo_b_z c5)).2]; exact h⟩)
set_option maxHeartbeats 4000000 in
set_option maxRecDepth 20000 in
theorem cm_house5 {l : Launch} {Γ : mw_C} {mb : Nat} (hmb : Γ.2.2.2 ≤ mb) {W : Nat → Int32} {ρ : md_R} {H : Heap} {p y c : Nat} {name x : Int32} (hH : md_I Γ mb W ρ H) (hv : iv (c + 25) W) (hp : p < 5) (hy : y < 32768) (hvx : iv_v 0 5 x) : mw_Cr l Γ mX5_takenByHouse 7 0 0 (md_A mb) [.ref mb, .int (nI p), .int name, .int (nI y), .int (nI 5), .int x] H (some (.int (nI (mo_houseWhy W name y)))) (md_I Γ mb (mo_house W p name y 5 x) ρ) := by
  refine mw_ofG (P := pX5_takenByHouse) (by decide) (md_As hmb) oX5_takenByHouse (Nat.le_of_ble_eq_true rfl) ?_
  intro pg e0 sg mg below meth cd X hs
  refine mw_pre (I' := md_I Γ mb W ρ) (fun H1 h1 => by rw [h1]; exact hH) ?_
  refine mw_steps X 2 (pc' := 2) (lv' := [(0, .ref mb), (1, .int (nI p)), (2, .int name), (3, .int (nI y)), (4, .int (nI 5)), (5, .int x)]) (st' := [.int name, .ref mb]) rfl ?_
  refine mw_cV1r X kd_X5_isLive kv_X5_isLive kl_X5_72 (ci := 5) rfl rfl (Nat.le_of_ble_eq_true rfl) ⟨Nat.le_of_ble_eq_true rfl, Nat.le_of_ble_eq_true rfl⟩ ⟨Nat.le_of_ble_eq_true rfl, Nat.le_of_ble_eq_true rfl⟩ (fun _ h => h) (fun H h => ⟨⟨_, h.1⟩, cm_isLive hmb h hv⟩) ?_
  refine mw_if_ne X 10 rfl rfl (fun c5 => ?_) (fun c5 => ?_)
  · refine mw_steps X 3 (pc' := 13) (lv' := [(0, .ref mb), (1, .int (nI p)), (2, .int name), (3, .int (nI y)), (4, .int (nI 5)), (5, .int x)]) (st' := [.int (nI y), .int (nI 1), .ref mb]) rfl ?_
    refine mw_cV2r X kd_X5_took kv_X5_took kl_X5_76 (ci := 5) rfl rfl (Nat.le_of_ble_eq_true rfl) ⟨Nat.le_of_ble_eq_true rfl, Nat.le_of_ble_eq_true rfl⟩ ⟨Nat.le_of_ble_eq_true rfl, Nat.le_of_ble_eq_true rfl⟩ (fun _ h => h) (fun H h => ⟨⟨_, h.1⟩, cm_took hmb h (e := 1) (by omega) hy⟩) ?_
    refine mw_if_eq X 21 rfl rfl (fun c16 => ?_) (fun c16 => ?_)
    · refine mw_steps X 3 (pc' := 24) (lv' := [(0, .ref mb), (1, .int (nI p)), (2, .int name), (3, .int (nI y)), (4, .int (nI 5)), (5, .int x)]) (st' := [.int (nI y), .int (nI 1), .ref mb]) rfl ?_
      refine mw_cV2v X kd_X5_note kv_X5_note kl_X5_79 (ci := 5) rfl rfl (Nat.le_of_ble_eq_true rfl) ⟨Nat.le_of_ble_eq_true rfl, Nat.le_of_ble_eq_true rfl⟩ ⟨Nat.le_of_ble_eq_true rfl, Nat.le_of_ble_eq_true rfl⟩ (fun _ h => h) (fun H h => ⟨⟨_, h.1⟩, cm_note hmb h (e := 1) (by omega) hy⟩) ?_
      have hn37 : mo_note W 1 y (37 + p) = W (37 + p) := pk_un (by omega)
      refine mw_steps X 1 (pc' := 28) (lv' := [(0, .ref mb), (1, .int (nI p)), (2, .int name), (3, .int (nI y)), (4, .int (nI 5)), (5, .int x)]) (st' := [.ref mb]) rfl ?_
      refine mw_get X kf_X5_7.fl kc_5 rfl (v := .ref (mb + 1)) (fun H h => ⟨_, h.1, rfl⟩) ?_
      refine mw_steps X 4 (pc' := 36) (lv' := [(0, .ref mb), (1, .int (nI p)), (2, .int name), (3, .int (nI y)), (4, .int (nI 5)), (5, .int x)]) (st' := [.int ((nI 37) + (nI p)), .ref (mb + 1), .int ((nI 37) + (nI p)), .ref (mb + 1)]) rfl ?_
      refine mw_iald X (v := W (37 + p)) (37 + p) (by simp only [nI_add, pk_mul]) rfl (fun H h => ⟨_, _, h.2.1, by omega, by decide, hn37⟩) ?_
      refine mw_steps X 1 (pc' := 39) (lv' := [(0, .ref mb), (1, .int (nI p)), (2, .int name), (3, .int (nI y)), (4, .int (nI 5)), (5, .int x)]) (st' := [.int (nI 5), .int (W (37 + p)), .int ((nI 37) + (nI p)), .ref (mb + 1)]) rfl ?_
      refine mw_cS1r X kd_X5_sizeOf ks_X5_sizeOf kl_X5_25 rfl (Nat.le_of_ble_eq_true rfl) ⟨Nat.le_of_ble_eq_true rfl, Nat.le_of_ble_eq_true rfl⟩ ⟨Nat.le_of_ble_eq_true rfl, Nat.le_of_ble_eq_true rfl⟩ (fun _ h => h) (fun H h => cm_sizeOf hmb (k := 5) (by omega) h) ?_
      refine mw_steps X 1 (pc' := 43) (lv' := [(0, .ref mb), (1, .int (nI p)), (2, .int name), (3, .int (nI y)), (4, .int (nI 5)), (5, .int x)]) (st' := [.int ((W (37 + p)) + (mw_sz 5)), .int ((nI 37) + (nI p)), .ref (mb + 1)]) rfl ?_
      refine mw_iast X (I1 := md_I Γ mb (upd (mo_note W 1 y) (37 + p) ((W (37 + p)) + (mw_sz 5))) ρ) (37 + p) (by simp only [nI_add, pk_mul]) rfl (fun H h => ⟨md_A1, _, _, h.2.1, by omega, by decide, fun H1 o c => h.stw o c⟩) ?_
      obtain ⟨G, hG⟩ : ∃ G, G = mo_houseGot W p 5 y := ⟨_, rfl⟩
      rw [show upd (mo_note W 1 y) (37 + p) ((W (37 + p)) + (mw_sz 5)) = G from hG.symm]
      have hiG : iv (c + 25) G := by rw [hG]; exact iv_got hv hp
      refine mw_steps X 1 (pc' := 46) (lv' := [(0, .ref mb), (1, .int (nI p)), (2, .int name), (3, .int (nI y)), (4, .int (nI 5)), (5, .int x)]) (st' := [.int (nI 5)]) rfl ?_
      refine mw_if_eq X 55 rfl rfl (fun c46 => absurd c46 (by decide)) (fun c46 => ?_)
      refine mw_steps X 2 (pc' := 52) (lv' := [(0, .ref mb), (1, .int (nI p)), (2, .int name), (3, .int (nI y)), (4, .int (nI 5)), (5, .int x)]) (st' := [.int (nI 3), .int (nI 5)]) rfl ?_
      refine mw_icmp_le X 79 rfl rfl (fun c52 => absurd c52 (by decide)) (fun c52 => ?_)
      refine mw_steps X 2 (pc' := 57) (lv' := [(0, .ref mb), (1, .int (nI p)), (2, .int name), (3, .int (nI y)), (4, .int (nI 5)), (5, .int x)]) (st' := [.ref mb, .int (nI y)]) rfl ?_
      refine mw_get X kf_X5_7.fl kc_5 rfl (v := .ref (mb + 1)) (fun H h => ⟨_, h.1, rfl⟩) ?_
      refine mw_steps X 1 (pc' := 62) (lv' := [(0, .ref mb), (1, .int (nI p)), (2, .int name), (3, .int (nI y)), (4, .int (nI 5)), (5, .int x)]) (st' := [.int (nI 6), .ref (mb + 1), .int (nI y)]) rfl ?_
      refine mw_iald X (v := G (6)) (6) rfl rfl (fun H h => ⟨_, _, h.2.1, by omega, by decide, rfl⟩) ?_
      refine mw_icmp_le X 79 rfl rfl (fun c63 => ?_) (fun c63 => ?_)
      · rw [show G = mo_new G p 5 y from by first | exact (ml_new_k (by decide)).symm | exact (ml_new_n c63).symm | exact (ml_new_y (by decide) c63).symm]
        have hiN : iv (c + 24) (mo_new G p 5 y) := iv_new hiG hp
        obtain ⟨N, hN⟩ : ∃ N, N = mo_new G p 5 y := ⟨_, rfl⟩
        rw [← hN] at hiN ⊢
        refine mw_steps X 1 (pc' := 81) (lv' := [(0, .ref mb), (1, .int (nI p)), (2, .int name), (3, .int (nI y)), (4, .int (nI 5)), (5, .int x)]) (st' := [.int (nI 5)]) rfl ?_
        refine mw_tsIn X 5 rfl (by decide) 167 rfl (by decide) rfl rfl ?_
        refine mw_steps X 3 (pc' := 171) (lv' := [(0, .ref mb), (1, .int (nI p)), (2, .int name), (3, .int (nI y)), (4, .int (nI 5)), (5, .int x)]) (st' := [.int x, .int (nI 1), .ref mb]) rfl ?_
        refine mw_cV2v X kd_X5_confirm kv_X5_confirm kl_X5_95 (ci := 5) rfl rfl (Nat.le_of_ble_eq_true rfl) ⟨Nat.le_of_ble_eq_true rfl, Nat.le_of_ble_eq_true rfl⟩ ⟨Nat.le_of_ble_eq_true rfl, Nat.le_of_ble_eq_true rfl⟩ (fun _ h => h) (fun H h => ⟨⟨_, h.1⟩, cm_confirm hmb h (e := 1) (by omega)⟩) ?_
        refine mw_steps X 3 (pc' := 179) (lv' := [(0, .ref mb), (1, .int (nI p)), (2, .int name), (3, .int (nI y)), (4, .int (nI 5)), (5, .int x)]) (st' := [.int (nI p), .ref mb]) rfl ?_
        rw [show mo_confirm N 1 x = mo_houseBy N p 5 name x from Eq.symm (ml_hb5)]
        refine mw_cV1v X kd_X5_letOut kv_X5_letOut kl_X5_65 (ci := 5) rfl rfl (Nat.le_of_ble_eq_true rfl) ⟨Nat.le_of_ble_eq_true rfl, Nat.le_of_ble_eq_true rfl⟩ ⟨Nat.le_of_ble_eq_true rfl, Nat.le_of_ble_eq_true rfl⟩ (fun _ h => h) (fun H h => ⟨⟨_, h.1⟩, cm_letOut hmb h (c := c) (iv_houseBy (c := c + 12) hiN hp (by omega) hvx) hp⟩) ?_
        refine mw_steps X 1 (pc' := 183) (lv' := [(0, .ref mb), (1, .int (nI p)), (2, .int name), (3, .int (nI y)), (4, .int (nI 5)), (5, .int x)]) (st' := [.int (nI 0)]) rfl ?_
        exact mw_iret X rfl rfl (fun H h => ⟨by rw [(ml_house_0 (p := p) (k := 5) (x := x) (mo_b_nz c5) (mo_b_z c16)).1], by rw [(ml_house_0 (mo_b_nz c5) (mo_b_z c16)).2, ← hG, ← hN]; exact h⟩)
      · refine mw_steps X 1 (pc' := 67) (lv' := [(0, .ref mb), (1, .int (nI p)), (2, .int name), (3, .int (nI y)), (4, .int (nI 5)), (5, .int x)]) (st' := [.ref mb]) rfl ?_
        refine mw_get X kf_X5_7.fl kc_5 rfl (v := .ref (mb + 1)) (fun H h => ⟨_, h.1, rfl⟩) ?_
        refine mw_steps X 2 (pc' := 73) (lv' := [(0, .ref mb), (1, .int (nI p)), (2, .int name), (3, .int (nI y)), (4, .int (nI 5)), (5, .int x)]) (st' := [.int (nI y), .int (nI 6), .ref (mb + 1)]) rfl ?_
        refine mw_iast X (I1 := md_I Γ mb (upd G (6) (nI y)) ρ) (6) rfl rfl (fun H h => ⟨md_A1, _, _, h.2.1, by omega, by decide, fun H1 o c => h.stw o c⟩) ?_
        refine mw_steps X 2 (pc' := 76) (lv' := [(0, .ref mb), (1, .int (nI p)), (2, .int name), (3, .int (nI y)), (4, .int (nI 5)), (5, .int x)]) (st' := [.int (nI p), .ref mb]) rfl ?_
        refine mw_cV1v X kd_X5_follow kv_X5_follow kl_X5_82 (ci := 5) rfl rfl (Nat.le_of_ble_eq_true rfl) ⟨Nat.le_of_ble_eq_true rfl, Nat.le_of_ble_eq_true rfl⟩ ⟨Nat.le_of_ble_eq_true rfl, Nat.le_of_ble_eq_true rfl⟩ (fun _ h => h) (fun H h => ⟨⟨_, h.1⟩, cm_follow hmb h (hiG.free (fun j a => pk_un (by omega))) hp⟩) ?_
        rw [show mo_follow (upd G 6 (nI y)) p = mo_new G p 5 y from by first | exact (ml_new_k (by decide)).symm | exact (ml_new_n c63).symm | exact (ml_new_y (by decide) c63).symm]
        have hiN : iv (c + 24) (mo_new G p 5 y) := iv_new hiG hp
        obtain ⟨N, hN⟩ : ∃ N, N = mo_new G p 5 y := ⟨_, rfl⟩
        rw [← hN] at hiN ⊢
        refine mw_steps X 1 (pc' := 81) (lv' := [(0, .ref mb), (1, .int (nI p)), (2, .int name), (3, .int (nI y)), (4, .int (nI 5)), (5, .int x)]) (st' := [.int (nI 5)]) rfl ?_
        refine mw_tsIn X 5 rfl (by decide) 167 rfl (by decide) rfl rfl ?_
        refine mw_steps X 3 (pc' := 171) (lv' := [(0, .ref mb), (1, .int (nI p)), (2, .int name), (3, .int (nI y)), (4, .int (nI 5)), (5, .int x)]) (st' := [.int x, .int (nI 1), .ref mb]) rfl ?_
        refine mw_cV2v X kd_X5_confirm kv_X5_confirm kl_X5_95 (ci := 5) rfl rfl (Nat.le_of_ble_eq_true rfl) ⟨Nat.le_of_ble_eq_true rfl, Nat.le_of_ble_eq_true rfl⟩ ⟨Nat.le_of_ble_eq_true rfl, Nat.le_of_ble_eq_true rfl⟩ (fun _ h => h) (fun H h => ⟨⟨_, h.1⟩, cm_confirm hmb h (e := 1) (by omega)⟩) ?_
        refine mw_steps X 3 (pc' := 179) (lv' := [(0, .ref mb), (1, .int (nI p)), (2, .int name), (3, .int (nI y)), (4, .int (nI 5)), (5, .int x)]) (st' := [.int (nI p), .ref mb]) rfl ?_
        rw [show mo_confirm N 1 x = mo_houseBy N p 5 name x from Eq.symm (ml_hb5)]
        refine mw_cV1v X kd_X5_letOut kv_X5_letOut kl_X5_65 (ci := 5) rfl rfl (Nat.le_of_ble_eq_true rfl) ⟨Nat.le_of_ble_eq_true rfl, Nat.le_of_ble_eq_true rfl⟩ ⟨Nat.le_of_ble_eq_true rfl, Nat.le_of_ble_eq_true rfl⟩ (fun _ h => h) (fun H h => ⟨⟨_, h.1⟩, cm_letOut hmb h (c := c) (iv_houseBy (c := c + 12) hiN hp (by omega) hvx) hp⟩) ?_
        refine mw_steps X 1 (pc' := 183) (lv' := [(0, .ref mb), (1, .int (nI p)), (2, .int name), (3, .int (nI y)), (4, .int (nI 5)), (5, .int x)]) (st' := [.int (nI 0)]) rfl ?_
        exact mw_iret X rfl rfl (fun H h => ⟨by rw [(ml_house_0 (p := p) (k := 5) (x := x) (mo_b_nz c5) (mo_b_z c16)).1], by rw [(ml_house_0 (mo_b_nz c5) (mo_b_z c16)).2, ← hG, ← hN]; exact h⟩)
    · refine mw_steps X 1 (pc' := 20) (lv' := [(0, .ref mb), (1, .int (nI p)), (2, .int name), (3, .int (nI y)), (4, .int (nI 5)), (5, .int x)]) (st' := [.int (nI 3)]) rfl ?_
      exact mw_iret X rfl rfl (fun H h => ⟨by rw [(ml_house_3 (p := p) (k := 5) (x := x) (mo_b_nz c5) (mo_b_nz c16)).1], by rw [(ml_house_3 (p := p) (k := 5) (x := x) (mo_b_nz c5) (mo_b_nz c16)).2]; exact h⟩)
  · refine mw_steps X 1 (pc' := 9) (lv' := [(0, .ref mb), (1, .int (nI p)), (2, .int name), (3, .int (nI y)), (4, .int (nI 5)), (5, .int x)]) (st' := [.int (nI 1)]) rfl ?_
    exact mw_iret X rfl rfl (fun H h => ⟨by rw [(ml_house_1 (p := p) (y := y) (k := 5) (x := x) (mo_b_z c5)).1], by rw [(ml_house_1 (p := p) (y := y) (k := 5) (x := x) (mo_b_z c5)).2]; exact h⟩)
theorem cm_house {l : Launch} {Γ : mw_C} {mb : Nat} (hmb : Γ.2.2.2 ≤ mb) {W : Nat → Int32} {ρ : md_R} {H : Heap} {p y k c : Nat} {name x : Int32} (hH : md_I Γ mb W ρ H) (hv : iv (c + 25) W) (hp : p < 5) (hy : y < 32768) (hk : k < 6) (hvx : iv_v 0 k x) : mw_Cr l Γ mX5_takenByHouse 7 0 0 (md_A mb) [.ref mb, .int (nI p), .int name, .int (nI y), .int (nI k), .int x] H (some (.int (nI (mo_houseWhy W name y)))) (md_I Γ mb (mo_house W p name y k x) ρ) := by
  rcases (show k = 0 ∨ k = 1 ∨ k = 2 ∨ k = 3 ∨ k = 4 ∨ k = 5 by omega) with rfl | rfl | rfl | rfl | rfl | rfl
  · exact cm_house0 hmb hH hv hp hy hvx
  · exact cm_house1 hmb hH hv hp hy hvx
  · exact cm_house2 hmb hH hv hp hy hvx
  · exact cm_house3 hmb hH hv hp hy hvx
  · exact cm_house4 hmb hH hv hp hy hvx
  · exact cm_house5 hmb hH hv hp hy hvx
