theorem ml_it {α : Type} (f : α → α) (g : Nat → α → α) (h0 : ∀ q, g 0 q = q) (hs : ∀ n q, g (n + 1) q = g n (f q)) (n : Nat) : ∀ q, g (n + 1) q = f (g n q) := by
  induction n with
  | zero => intro q; rw [hs, h0, h0]
  | succ n ih => intro q; rw [hs, ih, hs]
def mo_it {α : Type} (f : α → α) : Nat → α → α
  | 0, q => q
  | n + 1, q => mo_it f n (f q)
theorem mo_it_s {α : Type} (f : α → α) (n : Nat) (q : α) : mo_it f (n + 1) q = f (mo_it f n q) := ml_it f (mo_it f) (fun _ => rfl) (fun _ _ => rfl) n q
noncomputable def op_step (q : (Nat → Int32) × Int32) : (Nat → Int32) × Int32 := ((op_chance q.1 q.2).2.1, (op_chance q.1 q.2).2.2)
noncomputable def mo_dr (n : Nat) (q : (Nat → Int32) × Int32) : (Nat → Int32) × Int32 := mo_it op_step n q
theorem ml_driftS (n : Nat) (q : (Nat → Int32) × Int32) : mo_dr (n + 1) q = ((op_chance (mo_dr n q).1 (mo_dr n q).2).2.1, (op_chance (mo_dr n q).1 (mo_dr n q).2).2.2) := by
  unfold mo_dr
  rw [mo_it_s]
  rw [op_step]
noncomputable def op_drift (W : Nat → Int32) (sd x : Int32) : Int32 × (Nat → Int32) × Int32 :=
  if mo_in x.toInt64 1 20 = true then ((mo_dr (mo_n x) (W, sd)).1 11, (mo_dr (mo_n x) (W, sd)).1, (mo_dr (mo_n x) (W, sd)).2) else (oO, W, sd)
theorem ml_in20 {x : Int32} (h : mo_in x.toInt64 1 20 = true) : ∃ j, 1 ≤ j ∧ j ≤ 20 ∧ x = nI j := by
  unfold mo_in at h
  rw [show (1 : Int64) = (nI 1).toInt64 by decide, show (20 : Int64) = (nI 20).toInt64 by decide, Bool.and_eq_true, decide_eq_true_eq, decide_eq_true_eq, mb_wide_le, mb_wide_le] at h
  obtain ⟨j, hj, rfl⟩ := nI_of (x := x) (fun q => by
    have h1 := h.1
    rw [Int32.le_iff_toInt_le] at h1
    rw [Int32.lt_iff_toInt_lt] at q
    have e1 : (nI 1).toInt = 1 := by decide
    have e2 : (0 : Int32).toInt = 0 := by decide
    omega)
  rw [nI_leI (by omega) hj, nI_leI hj (by omega)] at h
  exact ⟨j, h.1, h.2, rfl⟩
set_option maxHeartbeats 4000000 in
set_option maxRecDepth 20000 in
theorem cm_chance {l : Launch} {Γ : mw_C} {mb : Nat} (hmb : Γ.2.2.2 ≤ mb) {W : Nat → Int32} {ρ : md_R} {H : Heap} {c : Nat} (hH : md_I Γ mb W ρ H) (hv : iv (c + 25) W) (hs : 0 ≤ ρ.2.1) : mw_Cr l Γ mX5_chance 10 0 0 (md_A mb) [.ref mb] H (some (.int (op_chance W ρ.2.1).1)) (md_I Γ mb (op_chance W ρ.2.1).2.1 (ρ.1, (op_chance W ρ.2.1).2.2, ρ.2.2.1, ρ.2.2.2.1, ρ.2.2.2.2.1, ρ.2.2.2.2.2.1, ρ.2.2.2.2.2.2)) := by
  obtain ⟨⟨j, hj, hd⟩, hs1⟩ := ml_drawE (n := 10) hs (by omega) (by omega)
  have hc2 : iv c W := hv.less (by omega)
  refine mw_ofG (P := pX5_chance) (by decide) (md_As hmb) oX5_chance (Nat.le_of_ble_eq_true rfl) ?_
  intro pg e0 sg mg below meth cd X hs
  refine mw_pre (I' := md_I Γ mb W ρ) (fun H1 h1 => by rw [h1]; exact hH) ?_
  refine mw_steps X 2 (pc' := 3) (lv' := [(0, .ref mb)]) (st' := [.int (nI 10), .ref mb]) rfl ?_
  refine mw_cV1r X kd_X5_draw kv_X5_draw kl_X5_199 (ci := 5) rfl rfl (Nat.le_of_ble_eq_true rfl) ⟨Nat.le_of_ble_eq_true rfl, Nat.le_of_ble_eq_true rfl⟩ ⟨Nat.le_of_ble_eq_true rfl, Nat.le_of_ble_eq_true rfl⟩ (fun _ h => h) (fun H h => ⟨⟨_, h.1⟩, cm_draw hmb h (n := nI 10) (by decide)⟩) ?_
  rw [hd]
  rcases (show j = 0 ∨ j = 1 ∨ j = 2 ∨ j = 3 ∨ j = 4 ∨ j = 5 ∨ j = 6 ∨ j = 7 ∨ j = 8 ∨ j = 9 by omega) with rfl | rfl | rfl | rfl | rfl | rfl | rfl | rfl | rfl | rfl
  · refine mw_steps X 3 (pc' := 9) (lv' := [(1, .int (nI 0)), (0, .ref mb)]) (st' := [.int (nI 5), .int (nI 0)]) rfl ?_
    refine mw_icmp_ge X 57 rfl rfl (fun c9 => absurd c9 (by decide)) (fun c9 => ?_)
    refine mw_steps X 1 (pc' := 13) (lv' := [(1, .int (nI 0)), (0, .ref mb)]) (st' := [.ref mb]) rfl ?_
    refine mw_get X kf_X5_7.fl kc_5 rfl (v := .ref (mb + 1)) (fun H h => ⟨_, h.1, rfl⟩) ?_
    refine mw_steps X 1 (pc' := 18) (lv' := [(1, .int (nI 0)), (0, .ref mb)]) (st' := [.int (nI 11), .ref (mb + 1)]) rfl ?_
    refine mw_iald X (v := W (11)) (11) rfl rfl (fun H h => ⟨_, _, h.2.1, by omega, by decide, rfl⟩) ?_
    refine mw_if_le X 36 rfl rfl (fun c19 => ?_) (fun c19 => ?_)
    · refine mw_steps X 4 (pc' := 40) (lv' := [(2, .int (-1)), (1, .int (nI 0)), (0, .ref mb)]) (st' := [.int (nI 4), .int (nI 0)]) rfl ?_
      refine mw_icmp_ge X 51 rfl rfl (fun c40 => absurd c40 (by decide)) (fun c40 => ?_)
      refine mw_steps X 2 (pc' := 45) (lv' := [(2, .int (-1)), (1, .int (nI 0)), (0, .ref mb)]) (st' := [.int (-1), .ref mb]) rfl ?_
      refine mw_cV1r X kd_X5_arrive kv_X5_arrive kl_X5_202 (ci := 5) rfl rfl (Nat.le_of_ble_eq_true rfl) ⟨Nat.le_of_ble_eq_true rfl, Nat.le_of_ble_eq_true rfl⟩ ⟨Nat.le_of_ble_eq_true rfl, Nat.le_of_ble_eq_true rfl⟩ (fun _ h => h) (fun H h => ⟨⟨_, h.1⟩, cm_arrive hmb h (c := c) hv⟩) ?_
      refine mw_steps X 1 (pc' := 56) (lv' := [(2, .int (-1)), (1, .int (nI 0)), (0, .ref mb)]) (st' := [.int ((op_arrive W (-1)).1)]) rfl ?_
      have hop : op_chance W ρ.2.1 = ((op_arrive W (-1)).1, (op_arrive W (-1)).2, mo_seed ρ.2.1) := by unfold op_chance; simp only [hd, if_pos (show nI 0 < nI 5 by decide), if_pos (show nI 0 < nI 4 by decide), if_neg (Int32.not_lt.mpr c19), ↓reduceIte]
      exact mw_iret X rfl rfl (fun H h => ⟨by rw [hop], by rw [hop]; exact h⟩)
    · refine mw_steps X 2 (pc' := 24) (lv' := [(1, .int (nI 0)), (0, .ref mb)]) (st' := [.ref mb, .ref mb]) rfl ?_
      refine mw_get X kf_X5_7.fl kc_5 rfl (v := .ref (mb + 1)) (fun H h => ⟨_, h.1, rfl⟩) ?_
      refine mw_steps X 1 (pc' := 29) (lv' := [(1, .int (nI 0)), (0, .ref mb)]) (st' := [.int (nI 11), .ref (mb + 1), .ref mb]) rfl ?_
      refine mw_iald X (v := W (11)) (11) rfl rfl (fun H h => ⟨_, _, h.2.1, by omega, by decide, rfl⟩) ?_
      refine mw_cV1r X kd_X5_draw kv_X5_draw kl_X5_199 (ci := 5) rfl rfl (Nat.le_of_ble_eq_true rfl) ⟨Nat.le_of_ble_eq_true rfl, Nat.le_of_ble_eq_true rfl⟩ ⟨Nat.le_of_ble_eq_true rfl, Nat.le_of_ble_eq_true rfl⟩ (fun _ h => h) (fun H h => ⟨⟨_, h.1⟩, cm_draw hmb h (n := W (11)) (fun q => c19 (by rw [q]; decide))⟩) ?_
      refine mw_steps X 4 (pc' := 40) (lv' := [(2, .int (mo_draw (mo_seed ρ.2.1) (W (11)))), (1, .int (nI 0)), (0, .ref mb)]) (st' := [.int (nI 4), .int (nI 0)]) rfl ?_
      refine mw_icmp_ge X 51 rfl rfl (fun c40 => absurd c40 (by decide)) (fun c40 => ?_)
      refine mw_steps X 2 (pc' := 45) (lv' := [(2, .int (mo_draw (mo_seed ρ.2.1) (W (11)))), (1, .int (nI 0)), (0, .ref mb)]) (st' := [.int (mo_draw (mo_seed ρ.2.1) (W (11))), .ref mb]) rfl ?_
      refine mw_cV1r X kd_X5_arrive kv_X5_arrive kl_X5_202 (ci := 5) rfl rfl (Nat.le_of_ble_eq_true rfl) ⟨Nat.le_of_ble_eq_true rfl, Nat.le_of_ble_eq_true rfl⟩ ⟨Nat.le_of_ble_eq_true rfl, Nat.le_of_ble_eq_true rfl⟩ (fun _ h => h) (fun H h => ⟨⟨_, h.1⟩, cm_arrive hmb h (c := c) hv⟩) ?_
      refine mw_steps X 1 (pc' := 56) (lv' := [(2, .int (mo_draw (mo_seed ρ.2.1) (W (11)))), (1, .int (nI 0)), (0, .ref mb)]) (st' := [.int ((op_arrive W (mo_draw (mo_seed ρ.2.1) (W (11)))).1)]) rfl ?_
      have hop : op_chance W ρ.2.1 = ((op_arrive W (mo_draw (mo_seed ρ.2.1) (W (11)))).1, (op_arrive W (mo_draw (mo_seed ρ.2.1) (W (11)))).2, mo_seed (mo_seed ρ.2.1)) := by unfold op_chance; simp only [hd, if_pos (show nI 0 < nI 5 by decide), if_pos (show nI 0 < nI 4 by decide), if_pos (Int32.not_le.mp c19), ↓reduceIte]
      exact mw_iret X rfl rfl (fun H h => ⟨by rw [hop], by rw [hop]; exact h⟩)
  · refine mw_steps X 3 (pc' := 9) (lv' := [(1, .int (nI 1)), (0, .ref mb)]) (st' := [.int (nI 5), .int (nI 1)]) rfl ?_
    refine mw_icmp_ge X 57 rfl rfl (fun c9 => absurd c9 (by decide)) (fun c9 => ?_)
    refine mw_steps X 1 (pc' := 13) (lv' := [(1, .int (nI 1)), (0, .ref mb)]) (st' := [.ref mb]) rfl ?_
    refine mw_get X kf_X5_7.fl kc_5 rfl (v := .ref (mb + 1)) (fun H h => ⟨_, h.1, rfl⟩) ?_
    refine mw_steps X 1 (pc' := 18) (lv' := [(1, .int (nI 1)), (0, .ref mb)]) (st' := [.int (nI 11), .ref (mb + 1)]) rfl ?_
    refine mw_iald X (v := W (11)) (11) rfl rfl (fun H h => ⟨_, _, h.2.1, by omega, by decide, rfl⟩) ?_
    refine mw_if_le X 36 rfl rfl (fun c19 => ?_) (fun c19 => ?_)
    · refine mw_steps X 4 (pc' := 40) (lv' := [(2, .int (-1)), (1, .int (nI 1)), (0, .ref mb)]) (st' := [.int (nI 4), .int (nI 1)]) rfl ?_
      refine mw_icmp_ge X 51 rfl rfl (fun c40 => absurd c40 (by decide)) (fun c40 => ?_)
      refine mw_steps X 2 (pc' := 45) (lv' := [(2, .int (-1)), (1, .int (nI 1)), (0, .ref mb)]) (st' := [.int (-1), .ref mb]) rfl ?_
      refine mw_cV1r X kd_X5_arrive kv_X5_arrive kl_X5_202 (ci := 5) rfl rfl (Nat.le_of_ble_eq_true rfl) ⟨Nat.le_of_ble_eq_true rfl, Nat.le_of_ble_eq_true rfl⟩ ⟨Nat.le_of_ble_eq_true rfl, Nat.le_of_ble_eq_true rfl⟩ (fun _ h => h) (fun H h => ⟨⟨_, h.1⟩, cm_arrive hmb h (c := c) hv⟩) ?_
      refine mw_steps X 1 (pc' := 56) (lv' := [(2, .int (-1)), (1, .int (nI 1)), (0, .ref mb)]) (st' := [.int ((op_arrive W (-1)).1)]) rfl ?_
      have hop : op_chance W ρ.2.1 = ((op_arrive W (-1)).1, (op_arrive W (-1)).2, mo_seed ρ.2.1) := by unfold op_chance; simp only [hd, if_pos (show nI 1 < nI 5 by decide), if_pos (show nI 1 < nI 4 by decide), if_neg (Int32.not_lt.mpr c19), ↓reduceIte]
      exact mw_iret X rfl rfl (fun H h => ⟨by rw [hop], by rw [hop]; exact h⟩)
    · refine mw_steps X 2 (pc' := 24) (lv' := [(1, .int (nI 1)), (0, .ref mb)]) (st' := [.ref mb, .ref mb]) rfl ?_
      refine mw_get X kf_X5_7.fl kc_5 rfl (v := .ref (mb + 1)) (fun H h => ⟨_, h.1, rfl⟩) ?_
      refine mw_steps X 1 (pc' := 29) (lv' := [(1, .int (nI 1)), (0, .ref mb)]) (st' := [.int (nI 11), .ref (mb + 1), .ref mb]) rfl ?_
      refine mw_iald X (v := W (11)) (11) rfl rfl (fun H h => ⟨_, _, h.2.1, by omega, by decide, rfl⟩) ?_
      refine mw_cV1r X kd_X5_draw kv_X5_draw kl_X5_199 (ci := 5) rfl rfl (Nat.le_of_ble_eq_true rfl) ⟨Nat.le_of_ble_eq_true rfl, Nat.le_of_ble_eq_true rfl⟩ ⟨Nat.le_of_ble_eq_true rfl, Nat.le_of_ble_eq_true rfl⟩ (fun _ h => h) (fun H h => ⟨⟨_, h.1⟩, cm_draw hmb h (n := W (11)) (fun q => c19 (by rw [q]; decide))⟩) ?_
      refine mw_steps X 4 (pc' := 40) (lv' := [(2, .int (mo_draw (mo_seed ρ.2.1) (W (11)))), (1, .int (nI 1)), (0, .ref mb)]) (st' := [.int (nI 4), .int (nI 1)]) rfl ?_
      refine mw_icmp_ge X 51 rfl rfl (fun c40 => absurd c40 (by decide)) (fun c40 => ?_)
      refine mw_steps X 2 (pc' := 45) (lv' := [(2, .int (mo_draw (mo_seed ρ.2.1) (W (11)))), (1, .int (nI 1)), (0, .ref mb)]) (st' := [.int (mo_draw (mo_seed ρ.2.1) (W (11))), .ref mb]) rfl ?_
      refine mw_cV1r X kd_X5_arrive kv_X5_arrive kl_X5_202 (ci := 5) rfl rfl (Nat.le_of_ble_eq_true rfl) ⟨Nat.le_of_ble_eq_true rfl, Nat.le_of_ble_eq_true rfl⟩ ⟨Nat.le_of_ble_eq_true rfl, Nat.le_of_ble_eq_true rfl⟩ (fun _ h => h) (fun H h => ⟨⟨_, h.1⟩, cm_arrive hmb h (c := c) hv⟩) ?_
      refine mw_steps X 1 (pc' := 56) (lv' := [(2, .int (mo_draw (mo_seed ρ.2.1) (W (11)))), (1, .int (nI 1)), (0, .ref mb)]) (st' := [.int ((op_arrive W (mo_draw (mo_seed ρ.2.1) (W (11)))).1)]) rfl ?_
      have hop : op_chance W ρ.2.1 = ((op_arrive W (mo_draw (mo_seed ρ.2.1) (W (11)))).1, (op_arrive W (mo_draw (mo_seed ρ.2.1) (W (11)))).2, mo_seed (mo_seed ρ.2.1)) := by unfold op_chance; simp only [hd, if_pos (show nI 1 < nI 5 by decide), if_pos (show nI 1 < nI 4 by decide), if_pos (Int32.not_le.mp c19), ↓reduceIte]
      exact mw_iret X rfl rfl (fun H h => ⟨by rw [hop], by rw [hop]; exact h⟩)
  · refine mw_steps X 3 (pc' := 9) (lv' := [(1, .int (nI 2)), (0, .ref mb)]) (st' := [.int (nI 5), .int (nI 2)]) rfl ?_
    refine mw_icmp_ge X 57 rfl rfl (fun c9 => absurd c9 (by decide)) (fun c9 => ?_)
    refine mw_steps X 1 (pc' := 13) (lv' := [(1, .int (nI 2)), (0, .ref mb)]) (st' := [.ref mb]) rfl ?_
    refine mw_get X kf_X5_7.fl kc_5 rfl (v := .ref (mb + 1)) (fun H h => ⟨_, h.1, rfl⟩) ?_
    refine mw_steps X 1 (pc' := 18) (lv' := [(1, .int (nI 2)), (0, .ref mb)]) (st' := [.int (nI 11), .ref (mb + 1)]) rfl ?_
    refine mw_iald X (v := W (11)) (11) rfl rfl (fun H h => ⟨_, _, h.2.1, by omega, by decide, rfl⟩) ?_
    refine mw_if_le X 36 rfl rfl (fun c19 => ?_) (fun c19 => ?_)
    · refine mw_steps X 4 (pc' := 40) (lv' := [(2, .int (-1)), (1, .int (nI 2)), (0, .ref mb)]) (st' := [.int (nI 4), .int (nI 2)]) rfl ?_
      refine mw_icmp_ge X 51 rfl rfl (fun c40 => absurd c40 (by decide)) (fun c40 => ?_)
      refine mw_steps X 2 (pc' := 45) (lv' := [(2, .int (-1)), (1, .int (nI 2)), (0, .ref mb)]) (st' := [.int (-1), .ref mb]) rfl ?_
      refine mw_cV1r X kd_X5_arrive kv_X5_arrive kl_X5_202 (ci := 5) rfl rfl (Nat.le_of_ble_eq_true rfl) ⟨Nat.le_of_ble_eq_true rfl, Nat.le_of_ble_eq_true rfl⟩ ⟨Nat.le_of_ble_eq_true rfl, Nat.le_of_ble_eq_true rfl⟩ (fun _ h => h) (fun H h => ⟨⟨_, h.1⟩, cm_arrive hmb h (c := c) hv⟩) ?_
      refine mw_steps X 1 (pc' := 56) (lv' := [(2, .int (-1)), (1, .int (nI 2)), (0, .ref mb)]) (st' := [.int ((op_arrive W (-1)).1)]) rfl ?_
      have hop : op_chance W ρ.2.1 = ((op_arrive W (-1)).1, (op_arrive W (-1)).2, mo_seed ρ.2.1) := by unfold op_chance; simp only [hd, if_pos (show nI 2 < nI 5 by decide), if_pos (show nI 2 < nI 4 by decide), if_neg (Int32.not_lt.mpr c19), ↓reduceIte]
      exact mw_iret X rfl rfl (fun H h => ⟨by rw [hop], by rw [hop]; exact h⟩)
    · refine mw_steps X 2 (pc' := 24) (lv' := [(1, .int (nI 2)), (0, .ref mb)]) (st' := [.ref mb, .ref mb]) rfl ?_
      refine mw_get X kf_X5_7.fl kc_5 rfl (v := .ref (mb + 1)) (fun H h => ⟨_, h.1, rfl⟩) ?_
      refine mw_steps X 1 (pc' := 29) (lv' := [(1, .int (nI 2)), (0, .ref mb)]) (st' := [.int (nI 11), .ref (mb + 1), .ref mb]) rfl ?_
      refine mw_iald X (v := W (11)) (11) rfl rfl (fun H h => ⟨_, _, h.2.1, by omega, by decide, rfl⟩) ?_
      refine mw_cV1r X kd_X5_draw kv_X5_draw kl_X5_199 (ci := 5) rfl rfl (Nat.le_of_ble_eq_true rfl) ⟨Nat.le_of_ble_eq_true rfl, Nat.le_of_ble_eq_true rfl⟩ ⟨Nat.le_of_ble_eq_true rfl, Nat.le_of_ble_eq_true rfl⟩ (fun _ h => h) (fun H h => ⟨⟨_, h.1⟩, cm_draw hmb h (n := W (11)) (fun q => c19 (by rw [q]; decide))⟩) ?_
      refine mw_steps X 4 (pc' := 40) (lv' := [(2, .int (mo_draw (mo_seed ρ.2.1) (W (11)))), (1, .int (nI 2)), (0, .ref mb)]) (st' := [.int (nI 4), .int (nI 2)]) rfl ?_
      refine mw_icmp_ge X 51 rfl rfl (fun c40 => absurd c40 (by decide)) (fun c40 => ?_)
      refine mw_steps X 2 (pc' := 45) (lv' := [(2, .int (mo_draw (mo_seed ρ.2.1) (W (11)))), (1, .int (nI 2)), (0, .ref mb)]) (st' := [.int (mo_draw (mo_seed ρ.2.1) (W (11))), .ref mb]) rfl ?_
      refine mw_cV1r X kd_X5_arrive kv_X5_arrive kl_X5_202 (ci := 5) rfl rfl (Nat.le_of_ble_eq_true rfl) ⟨Nat.le_of_ble_eq_true rfl, Nat.le_of_ble_eq_true rfl⟩ ⟨Nat.le_of_ble_eq_true rfl, Nat.le_of_ble_eq_true rfl⟩ (fun _ h => h) (fun H h => ⟨⟨_, h.1⟩, cm_arrive hmb h (c := c) hv⟩) ?_
      refine mw_steps X 1 (pc' := 56) (lv' := [(2, .int (mo_draw (mo_seed ρ.2.1) (W (11)))), (1, .int (nI 2)), (0, .ref mb)]) (st' := [.int ((op_arrive W (mo_draw (mo_seed ρ.2.1) (W (11)))).1)]) rfl ?_
      have hop : op_chance W ρ.2.1 = ((op_arrive W (mo_draw (mo_seed ρ.2.1) (W (11)))).1, (op_arrive W (mo_draw (mo_seed ρ.2.1) (W (11)))).2, mo_seed (mo_seed ρ.2.1)) := by unfold op_chance; simp only [hd, if_pos (show nI 2 < nI 5 by decide), if_pos (show nI 2 < nI 4 by decide), if_pos (Int32.not_le.mp c19), ↓reduceIte]
      exact mw_iret X rfl rfl (fun H h => ⟨by rw [hop], by rw [hop]; exact h⟩)
  · refine mw_steps X 3 (pc' := 9) (lv' := [(1, .int (nI 3)), (0, .ref mb)]) (st' := [.int (nI 5), .int (nI 3)]) rfl ?_
    refine mw_icmp_ge X 57 rfl rfl (fun c9 => absurd c9 (by decide)) (fun c9 => ?_)
    refine mw_steps X 1 (pc' := 13) (lv' := [(1, .int (nI 3)), (0, .ref mb)]) (st' := [.ref mb]) rfl ?_
    refine mw_get X kf_X5_7.fl kc_5 rfl (v := .ref (mb + 1)) (fun H h => ⟨_, h.1, rfl⟩) ?_
    refine mw_steps X 1 (pc' := 18) (lv' := [(1, .int (nI 3)), (0, .ref mb)]) (st' := [.int (nI 11), .ref (mb + 1)]) rfl ?_
    refine mw_iald X (v := W (11)) (11) rfl rfl (fun H h => ⟨_, _, h.2.1, by omega, by decide, rfl⟩) ?_
    refine mw_if_le X 36 rfl rfl (fun c19 => ?_) (fun c19 => ?_)
    · refine mw_steps X 4 (pc' := 40) (lv' := [(2, .int (-1)), (1, .int (nI 3)), (0, .ref mb)]) (st' := [.int (nI 4), .int (nI 3)]) rfl ?_
      refine mw_icmp_ge X 51 rfl rfl (fun c40 => absurd c40 (by decide)) (fun c40 => ?_)
      refine mw_steps X 2 (pc' := 45) (lv' := [(2, .int (-1)), (1, .int (nI 3)), (0, .ref mb)]) (st' := [.int (-1), .ref mb]) rfl ?_
      refine mw_cV1r X kd_X5_arrive kv_X5_arrive kl_X5_202 (ci := 5) rfl rfl (Nat.le_of_ble_eq_true rfl) ⟨Nat.le_of_ble_eq_true rfl, Nat.le_of_ble_eq_true rfl⟩ ⟨Nat.le_of_ble_eq_true rfl, Nat.le_of_ble_eq_true rfl⟩ (fun _ h => h) (fun H h => ⟨⟨_, h.1⟩, cm_arrive hmb h (c := c) hv⟩) ?_
      refine mw_steps X 1 (pc' := 56) (lv' := [(2, .int (-1)), (1, .int (nI 3)), (0, .ref mb)]) (st' := [.int ((op_arrive W (-1)).1)]) rfl ?_
      have hop : op_chance W ρ.2.1 = ((op_arrive W (-1)).1, (op_arrive W (-1)).2, mo_seed ρ.2.1) := by unfold op_chance; simp only [hd, if_pos (show nI 3 < nI 5 by decide), if_pos (show nI 3 < nI 4 by decide), if_neg (Int32.not_lt.mpr c19), ↓reduceIte]
      exact mw_iret X rfl rfl (fun H h => ⟨by rw [hop], by rw [hop]; exact h⟩)
    · refine mw_steps X 2 (pc' := 24) (lv' := [(1, .int (nI 3)), (0, .ref mb)]) (st' := [.ref mb, .ref mb]) rfl ?_
      refine mw_get X kf_X5_7.fl kc_5 rfl (v := .ref (mb + 1)) (fun H h => ⟨_, h.1, rfl⟩) ?_
      refine mw_steps X 1 (pc' := 29) (lv' := [(1, .int (nI 3)), (0, .ref mb)]) (st' := [.int (nI 11), .ref (mb + 1), .ref mb]) rfl ?_
      refine mw_iald X (v := W (11)) (11) rfl rfl (fun H h => ⟨_, _, h.2.1, by omega, by decide, rfl⟩) ?_
      refine mw_cV1r X kd_X5_draw kv_X5_draw kl_X5_199 (ci := 5) rfl rfl (Nat.le_of_ble_eq_true rfl) ⟨Nat.le_of_ble_eq_true rfl, Nat.le_of_ble_eq_true rfl⟩ ⟨Nat.le_of_ble_eq_true rfl, Nat.le_of_ble_eq_true rfl⟩ (fun _ h => h) (fun H h => ⟨⟨_, h.1⟩, cm_draw hmb h (n := W (11)) (fun q => c19 (by rw [q]; decide))⟩) ?_
      refine mw_steps X 4 (pc' := 40) (lv' := [(2, .int (mo_draw (mo_seed ρ.2.1) (W (11)))), (1, .int (nI 3)), (0, .ref mb)]) (st' := [.int (nI 4), .int (nI 3)]) rfl ?_
      refine mw_icmp_ge X 51 rfl rfl (fun c40 => absurd c40 (by decide)) (fun c40 => ?_)
      refine mw_steps X 2 (pc' := 45) (lv' := [(2, .int (mo_draw (mo_seed ρ.2.1) (W (11)))), (1, .int (nI 3)), (0, .ref mb)]) (st' := [.int (mo_draw (mo_seed ρ.2.1) (W (11))), .ref mb]) rfl ?_
      refine mw_cV1r X kd_X5_arrive kv_X5_arrive kl_X5_202 (ci := 5) rfl rfl (Nat.le_of_ble_eq_true rfl) ⟨Nat.le_of_ble_eq_true rfl, Nat.le_of_ble_eq_true rfl⟩ ⟨Nat.le_of_ble_eq_true rfl, Nat.le_of_ble_eq_true rfl⟩ (fun _ h => h) (fun H h => ⟨⟨_, h.1⟩, cm_arrive hmb h (c := c) hv⟩) ?_
      refine mw_steps X 1 (pc' := 56) (lv' := [(2, .int (mo_draw (mo_seed ρ.2.1) (W (11)))), (1, .int (nI 3)), (0, .ref mb)]) (st' := [.int ((op_arrive W (mo_draw (mo_seed ρ.2.1) (W (11)))).1)]) rfl ?_
      have hop : op_chance W ρ.2.1 = ((op_arrive W (mo_draw (mo_seed ρ.2.1) (W (11)))).1, (op_arrive W (mo_draw (mo_seed ρ.2.1) (W (11)))).2, mo_seed (mo_seed ρ.2.1)) := by unfold op_chance; simp only [hd, if_pos (show nI 3 < nI 5 by decide), if_pos (show nI 3 < nI 4 by decide), if_pos (Int32.not_le.mp c19), ↓reduceIte]
      exact mw_iret X rfl rfl (fun H h => ⟨by rw [hop], by rw [hop]; exact h⟩)
  · refine mw_steps X 3 (pc' := 9) (lv' := [(1, .int (nI 4)), (0, .ref mb)]) (st' := [.int (nI 5), .int (nI 4)]) rfl ?_
    refine mw_icmp_ge X 57 rfl rfl (fun c9 => absurd c9 (by decide)) (fun c9 => ?_)
    refine mw_steps X 1 (pc' := 13) (lv' := [(1, .int (nI 4)), (0, .ref mb)]) (st' := [.ref mb]) rfl ?_
    refine mw_get X kf_X5_7.fl kc_5 rfl (v := .ref (mb + 1)) (fun H h => ⟨_, h.1, rfl⟩) ?_
    refine mw_steps X 1 (pc' := 18) (lv' := [(1, .int (nI 4)), (0, .ref mb)]) (st' := [.int (nI 11), .ref (mb + 1)]) rfl ?_
    refine mw_iald X (v := W (11)) (11) rfl rfl (fun H h => ⟨_, _, h.2.1, by omega, by decide, rfl⟩) ?_
    refine mw_if_le X 36 rfl rfl (fun c19 => ?_) (fun c19 => ?_)
    · refine mw_steps X 4 (pc' := 40) (lv' := [(2, .int (-1)), (1, .int (nI 4)), (0, .ref mb)]) (st' := [.int (nI 4), .int (nI 4)]) rfl ?_
      refine mw_icmp_ge X 51 rfl rfl (fun c40 => ?_) (fun c40 => absurd (by decide) c40)
      refine mw_steps X 2 (pc' := 53) (lv' := [(2, .int (-1)), (1, .int (nI 4)), (0, .ref mb)]) (st' := [.int (-1), .ref mb]) rfl ?_
      refine mw_cV1r X kd_X5_lose kv_X5_lose kl_X5_205 (ci := 5) rfl rfl (Nat.le_of_ble_eq_true rfl) ⟨Nat.le_of_ble_eq_true rfl, Nat.le_of_ble_eq_true rfl⟩ ⟨Nat.le_of_ble_eq_true rfl, Nat.le_of_ble_eq_true rfl⟩ (fun _ h => h) (fun H h => ⟨⟨_, h.1⟩, cm_lose hmb h (c := c) hc2⟩) ?_
      have hop : op_chance W ρ.2.1 = ((op_lose W (-1)).1, (op_lose W (-1)).2, mo_seed ρ.2.1) := by unfold op_chance; simp only [hd, if_pos (show nI 4 < nI 5 by decide), if_neg (show ¬ nI 4 < nI 4 by decide), if_neg (Int32.not_lt.mpr c19), ↓reduceIte]
      exact mw_iret X rfl rfl (fun H h => ⟨by rw [hop], by rw [hop]; exact h⟩)
    · refine mw_steps X 2 (pc' := 24) (lv' := [(1, .int (nI 4)), (0, .ref mb)]) (st' := [.ref mb, .ref mb]) rfl ?_
      refine mw_get X kf_X5_7.fl kc_5 rfl (v := .ref (mb + 1)) (fun H h => ⟨_, h.1, rfl⟩) ?_
      refine mw_steps X 1 (pc' := 29) (lv' := [(1, .int (nI 4)), (0, .ref mb)]) (st' := [.int (nI 11), .ref (mb + 1), .ref mb]) rfl ?_
      refine mw_iald X (v := W (11)) (11) rfl rfl (fun H h => ⟨_, _, h.2.1, by omega, by decide, rfl⟩) ?_
      refine mw_cV1r X kd_X5_draw kv_X5_draw kl_X5_199 (ci := 5) rfl rfl (Nat.le_of_ble_eq_true rfl) ⟨Nat.le_of_ble_eq_true rfl, Nat.le_of_ble_eq_true rfl⟩ ⟨Nat.le_of_ble_eq_true rfl, Nat.le_of_ble_eq_true rfl⟩ (fun _ h => h) (fun H h => ⟨⟨_, h.1⟩, cm_draw hmb h (n := W (11)) (fun q => c19 (by rw [q]; decide))⟩) ?_
      refine mw_steps X 4 (pc' := 40) (lv' := [(2, .int (mo_draw (mo_seed ρ.2.1) (W (11)))), (1, .int (nI 4)), (0, .ref mb)]) (st' := [.int (nI 4), .int (nI 4)]) rfl ?_
      refine mw_icmp_ge X 51 rfl rfl (fun c40 => ?_) (fun c40 => absurd (by decide) c40)
      refine mw_steps X 2 (pc' := 53) (lv' := [(2, .int (mo_draw (mo_seed ρ.2.1) (W (11)))), (1, .int (nI 4)), (0, .ref mb)]) (st' := [.int (mo_draw (mo_seed ρ.2.1) (W (11))), .ref mb]) rfl ?_
      refine mw_cV1r X kd_X5_lose kv_X5_lose kl_X5_205 (ci := 5) rfl rfl (Nat.le_of_ble_eq_true rfl) ⟨Nat.le_of_ble_eq_true rfl, Nat.le_of_ble_eq_true rfl⟩ ⟨Nat.le_of_ble_eq_true rfl, Nat.le_of_ble_eq_true rfl⟩ (fun _ h => h) (fun H h => ⟨⟨_, h.1⟩, cm_lose hmb h (c := c) hc2⟩) ?_
      have hop : op_chance W ρ.2.1 = ((op_lose W (mo_draw (mo_seed ρ.2.1) (W (11)))).1, (op_lose W (mo_draw (mo_seed ρ.2.1) (W (11)))).2, mo_seed (mo_seed ρ.2.1)) := by unfold op_chance; simp only [hd, if_pos (show nI 4 < nI 5 by decide), if_neg (show ¬ nI 4 < nI 4 by decide), if_pos (Int32.not_le.mp c19), ↓reduceIte]
      exact mw_iret X rfl rfl (fun H h => ⟨by rw [hop], by rw [hop]; exact h⟩)
  · refine mw_steps X 3 (pc' := 9) (lv' := [(1, .int (nI 5)), (0, .ref mb)]) (st' := [.int (nI 5), .int (nI 5)]) rfl ?_
    refine mw_icmp_ge X 57 rfl rfl (fun c9 => ?_) (fun c9 => absurd (by decide) c9)
    refine mw_steps X 2 (pc' := 60) (lv' := [(1, .int (nI 5)), (0, .ref mb)]) (st' := [.int (nI 8), .int (nI 5)]) rfl ?_
    refine mw_icmp_ge X 93 rfl rfl (fun c60 => absurd c60 (by decide)) (fun c60 => ?_)
    refine mw_steps X 2 (pc' := 65) (lv' := [(1, .int (nI 5)), (0, .ref mb)]) (st' := [.int (nI 5), .int (nI 5)]) rfl ?_
    refine mw_icmp_ne X 75 rfl rfl (fun c65 => absurd (by decide) c65) (fun c65 => ?_)
    refine mw_steps X 1 (pc' := 69) (lv' := [(1, .int (nI 5)), (0, .ref mb)]) (st' := [.ref mb]) rfl ?_
    refine mw_cV0r X kd_X5_say kv_X5_say kl_X5_208 (ci := 5) rfl rfl (Nat.le_of_ble_eq_true rfl) ⟨Nat.le_of_ble_eq_true rfl, Nat.le_of_ble_eq_true rfl⟩ ⟨Nat.le_of_ble_eq_true rfl, Nat.le_of_ble_eq_true rfl⟩ (fun _ h => h) (fun H h => ⟨⟨_, h.1⟩, cm_say hmb h (c := c) hc2⟩) ?_
    refine mw_steps X 1 (pc' := 92) (lv' := [(1, .int (nI 5)), (0, .ref mb)]) (st' := [.int ((op_next W 0).1)]) rfl ?_
    have hop : op_chance W ρ.2.1 = ((op_next W 0).1, (op_next W 0).2, mo_seed ρ.2.1) := by unfold op_chance; simp only [hd, if_neg (show ¬ nI 5 < nI 5 by decide), if_pos (show nI 5 = nI 5 from rfl), ↓reduceIte]
    exact mw_iret X rfl rfl (fun H h => ⟨by rw [hop], by rw [hop]; exact h⟩)
  · refine mw_steps X 3 (pc' := 9) (lv' := [(1, .int (nI 6)), (0, .ref mb)]) (st' := [.int (nI 5), .int (nI 6)]) rfl ?_
    refine mw_icmp_ge X 57 rfl rfl (fun c9 => ?_) (fun c9 => absurd (by decide) c9)
    refine mw_steps X 2 (pc' := 60) (lv' := [(1, .int (nI 6)), (0, .ref mb)]) (st' := [.int (nI 8), .int (nI 6)]) rfl ?_
    refine mw_icmp_ge X 93 rfl rfl (fun c60 => absurd c60 (by decide)) (fun c60 => ?_)
    refine mw_steps X 2 (pc' := 65) (lv' := [(1, .int (nI 6)), (0, .ref mb)]) (st' := [.int (nI 5), .int (nI 6)]) rfl ?_
    refine mw_icmp_ne X 75 rfl rfl (fun c65 => ?_) (fun c65 => absurd c65 (by decide))
    refine mw_steps X 2 (pc' := 78) (lv' := [(1, .int (nI 6)), (0, .ref mb)]) (st' := [.int (nI 6), .int (nI 6)]) rfl ?_
    refine mw_icmp_ne X 88 rfl rfl (fun c78 => absurd (by decide) c78) (fun c78 => ?_)
    refine mw_steps X 1 (pc' := 82) (lv' := [(1, .int (nI 6)), (0, .ref mb)]) (st' := [.ref mb]) rfl ?_
    refine mw_cV0r X kd_X5_speak kv_X5_speak kl_X5_211 (ci := 5) rfl rfl (Nat.le_of_ble_eq_true rfl) ⟨Nat.le_of_ble_eq_true rfl, Nat.le_of_ble_eq_true rfl⟩ ⟨Nat.le_of_ble_eq_true rfl, Nat.le_of_ble_eq_true rfl⟩ (fun _ h => h) (fun H h => ⟨⟨_, h.1⟩, cm_speak hmb h (c := c) hc2⟩) ?_
    refine mw_steps X 1 (pc' := 92) (lv' := [(1, .int (nI 6)), (0, .ref mb)]) (st' := [.int ((op_next W 1).1)]) rfl ?_
    have hop : op_chance W ρ.2.1 = ((op_next W 1).1, (op_next W 1).2, mo_seed ρ.2.1) := by unfold op_chance; simp only [hd, if_neg (show ¬ nI 6 < nI 5 by decide), if_neg (show ¬ nI 6 = nI 5 by decide), if_pos (show nI 6 = nI 6 from rfl), ↓reduceIte]
    exact mw_iret X rfl rfl (fun H h => ⟨by rw [hop], by rw [hop]; exact h⟩)
  · refine mw_steps X 3 (pc' := 9) (lv' := [(1, .int (nI 7)), (0, .ref mb)]) (st' := [.int (nI 5), .int (nI 7)]) rfl ?_
    refine mw_icmp_ge X 57 rfl rfl (fun c9 => ?_) (fun c9 => absurd (by decide) c9)
    refine mw_steps X 2 (pc' := 60) (lv' := [(1, .int (nI 7)), (0, .ref mb)]) (st' := [.int (nI 8), .int (nI 7)]) rfl ?_
    refine mw_icmp_ge X 93 rfl rfl (fun c60 => absurd c60 (by decide)) (fun c60 => ?_)
    refine mw_steps X 2 (pc' := 65) (lv' := [(1, .int (nI 7)), (0, .ref mb)]) (st' := [.int (nI 5), .int (nI 7)]) rfl ?_
    refine mw_icmp_ne X 75 rfl rfl (fun c65 => ?_) (fun c65 => absurd c65 (by decide))
    refine mw_steps X 2 (pc' := 78) (lv' := [(1, .int (nI 7)), (0, .ref mb)]) (st' := [.int (nI 6), .int (nI 7)]) rfl ?_
    refine mw_icmp_ne X 88 rfl rfl (fun c78 => ?_) (fun c78 => absurd c78 (by decide))
    refine mw_steps X 1 (pc' := 89) (lv' := [(1, .int (nI 7)), (0, .ref mb)]) (st' := [.ref mb]) rfl ?_
    refine mw_cV0r X kd_X5_tick kv_X5_tick kl_X5_214 (ci := 5) rfl rfl (Nat.le_of_ble_eq_true rfl) ⟨Nat.le_of_ble_eq_true rfl, Nat.le_of_ble_eq_true rfl⟩ ⟨Nat.le_of_ble_eq_true rfl, Nat.le_of_ble_eq_true rfl⟩ (fun _ h => h) (fun H h => ⟨⟨_, h.1⟩, cm_tick hmb h (c := c) (hv.less (by omega))⟩) ?_
    have hop : op_chance W ρ.2.1 = (mo_tick W 13, mo_tick W, mo_seed ρ.2.1) := by unfold op_chance; simp only [hd, if_neg (show ¬ nI 7 < nI 5 by decide), if_neg (show ¬ nI 7 = nI 5 by decide), if_neg (show ¬ nI 7 = nI 6 by decide), if_pos (show nI 7 = nI 7 from rfl), ↓reduceIte]
    exact mw_iret X rfl rfl (fun H h => ⟨by rw [hop], by rw [hop]; exact h⟩)
  · refine mw_steps X 3 (pc' := 9) (lv' := [(1, .int (nI 8)), (0, .ref mb)]) (st' := [.int (nI 5), .int (nI 8)]) rfl ?_
    refine mw_icmp_ge X 57 rfl rfl (fun c9 => ?_) (fun c9 => absurd (by decide) c9)
    refine mw_steps X 2 (pc' := 60) (lv' := [(1, .int (nI 8)), (0, .ref mb)]) (st' := [.int (nI 8), .int (nI 8)]) rfl ?_
    refine mw_icmp_ge X 93 rfl rfl (fun c60 => ?_) (fun c60 => absurd (by decide) c60)
    refine mw_steps X 2 (pc' := 96) (lv' := [(1, .int (nI 8)), (0, .ref mb)]) (st' := [.int (nI 8), .int (nI 8)]) rfl ?_
    refine mw_icmp_ne X 131 rfl rfl (fun c96 => absurd (by decide) c96) (fun c96 => ?_)
    refine mw_steps X 2 (pc' := 101) (lv' := [(1, .int (nI 8)), (0, .ref mb)]) (st' := [.int (nI 5), .ref mb]) rfl ?_
    refine mw_cV1r X kd_X5_draw kv_X5_draw kl_X5_199 (ci := 5) rfl rfl (Nat.le_of_ble_eq_true rfl) ⟨Nat.le_of_ble_eq_true rfl, Nat.le_of_ble_eq_true rfl⟩ ⟨Nat.le_of_ble_eq_true rfl, Nat.le_of_ble_eq_true rfl⟩ (fun _ h => h) (fun H h => ⟨⟨_, h.1⟩, cm_draw hmb h (n := nI 5) (by decide)⟩) ?_
    obtain ⟨⟨p, hp, hp2⟩, -⟩ := ml_drawE (n := 5) hs1 (by omega) (by omega)
    refine mw_top (y := nI p) hp2 ?_
    refine mw_steps X 2 (pc' := 106) (lv' := [(2, .int (nI p)), (1, .int (nI 8)), (0, .ref mb)]) (st' := [.ref mb]) rfl ?_
    refine mw_get X kf_X5_7.fl kc_5 rfl (v := .ref (mb + 1)) (fun H h => ⟨_, h.1, rfl⟩) ?_
    refine mw_steps X 3 (pc' := 113) (lv' := [(2, .int (nI p)), (1, .int (nI 8)), (0, .ref mb)]) (st' := [.int ((nI 22) + (nI p)), .ref (mb + 1)]) rfl ?_
    refine mw_iald X (v := W (22 + p)) (22 + p) (by simp only [nI_add, pk_mul]) rfl (fun H h => ⟨_, _, h.2.1, by omega, by decide, rfl⟩) ?_
    refine mw_if_lt X 125 rfl rfl (fun c114 => ?_) (fun c114 => ?_)
    · refine mw_steps X 2 (pc' := 127) (lv' := [(2, .int (nI p)), (1, .int (nI 8)), (0, .ref mb)]) (st' := [.int (nI p), .ref mb]) rfl ?_
      refine mw_cV1r X kd_X5_open kv_X5_open kl_X5_220 (ci := 5) rfl rfl (Nat.le_of_ble_eq_true rfl) ⟨Nat.le_of_ble_eq_true rfl, Nat.le_of_ble_eq_true rfl⟩ ⟨Nat.le_of_ble_eq_true rfl, Nat.le_of_ble_eq_true rfl⟩ (fun _ h => h) (fun H h => ⟨⟨_, h.1⟩, cm_open hmb h (c := c) hc2⟩) ?_
      have hop : op_chance W ρ.2.1 = ((op_open W (nI p)).1, (op_open W (nI p)).2, mo_seed (mo_seed ρ.2.1)) := by unfold op_chance; simp only [hd, if_neg (show ¬ nI 8 < nI 5 by decide), if_neg (show ¬ nI 8 = nI 5 by decide), if_neg (show ¬ nI 8 = nI 6 by decide), if_neg (show ¬ nI 8 = nI 7 by decide), if_pos (show nI 8 = nI 8 from rfl), hp2, ml_n (show p ≤ 100000 by omega), if_neg (Int32.not_le.mpr c114), ↓reduceIte]
      exact mw_iret X rfl rfl (fun H h => ⟨by rw [hop], by rw [hop]; exact h⟩)
    · refine mw_steps X 2 (pc' := 119) (lv' := [(2, .int (nI p)), (1, .int (nI 8)), (0, .ref mb)]) (st' := [.int (nI p), .ref mb]) rfl ?_
      refine mw_cV1r X kd_X5_go kv_X5_go kl_X5_217 (ci := 5) rfl rfl (Nat.le_of_ble_eq_true rfl) ⟨Nat.le_of_ble_eq_true rfl, Nat.le_of_ble_eq_true rfl⟩ ⟨Nat.le_of_ble_eq_true rfl, Nat.le_of_ble_eq_true rfl⟩ (fun _ h => h) (fun H h => ⟨⟨_, h.1⟩, cm_go hmb h (c := c) hc2⟩) ?_
      refine mw_steps X 1 (pc' := 130) (lv' := [(2, .int (nI p)), (1, .int (nI 8)), (0, .ref mb)]) (st' := [.int ((op_go W (nI p)).1)]) rfl ?_
      have hop : op_chance W ρ.2.1 = ((op_go W (nI p)).1, (op_go W (nI p)).2, mo_seed (mo_seed ρ.2.1)) := by unfold op_chance; simp only [hd, if_neg (show ¬ nI 8 < nI 5 by decide), if_neg (show ¬ nI 8 = nI 5 by decide), if_neg (show ¬ nI 8 = nI 6 by decide), if_neg (show ¬ nI 8 = nI 7 by decide), if_pos (show nI 8 = nI 8 from rfl), hp2, ml_n (show p ≤ 100000 by omega), if_pos (Int32.not_lt.mp c114), ↓reduceIte]
      exact mw_iret X rfl rfl (fun H h => ⟨by rw [hop], by rw [hop]; exact h⟩)
  · refine mw_steps X 3 (pc' := 9) (lv' := [(1, .int (nI 9)), (0, .ref mb)]) (st' := [.int (nI 5), .int (nI 9)]) rfl ?_
    refine mw_icmp_ge X 57 rfl rfl (fun c9 => ?_) (fun c9 => absurd (by decide) c9)
    refine mw_steps X 2 (pc' := 60) (lv' := [(1, .int (nI 9)), (0, .ref mb)]) (st' := [.int (nI 8), .int (nI 9)]) rfl ?_
    refine mw_icmp_ge X 93 rfl rfl (fun c60 => ?_) (fun c60 => absurd (by decide) c60)
    refine mw_steps X 2 (pc' := 96) (lv' := [(1, .int (nI 9)), (0, .ref mb)]) (st' := [.int (nI 8), .int (nI 9)]) rfl ?_
    refine mw_icmp_ne X 131 rfl rfl (fun c96 => ?_) (fun c96 => absurd c96 (by decide))
    refine mw_steps X 3 (pc' := 134) (lv' := [(1, .int (nI 9)), (0, .ref mb)]) (st' := [.int (nI 2), .ref mb, .ref mb]) rfl ?_
    refine mw_cV1r X kd_X5_draw kv_X5_draw kl_X5_199 (ci := 5) rfl rfl (Nat.le_of_ble_eq_true rfl) ⟨Nat.le_of_ble_eq_true rfl, Nat.le_of_ble_eq_true rfl⟩ ⟨Nat.le_of_ble_eq_true rfl, Nat.le_of_ble_eq_true rfl⟩ (fun _ h => h) (fun H h => ⟨⟨_, h.1⟩, cm_draw hmb h (n := nI 2) (by decide)⟩) ?_
    refine mw_cV1r X kd_X5_again kv_X5_again kl_X5_223 (ci := 5) rfl rfl (Nat.le_of_ble_eq_true rfl) ⟨Nat.le_of_ble_eq_true rfl, Nat.le_of_ble_eq_true rfl⟩ ⟨Nat.le_of_ble_eq_true rfl, Nat.le_of_ble_eq_true rfl⟩ (fun _ h => h) (fun H h => ⟨⟨_, h.1⟩, cm_again hmb h (c := c) hc2⟩) ?_
    have hop : op_chance W ρ.2.1 = ((op_again W (mo_draw (mo_seed ρ.2.1) (nI 2))).1, (op_again W (mo_draw (mo_seed ρ.2.1) (nI 2))).2, mo_seed (mo_seed ρ.2.1)) := by unfold op_chance; simp only [hd, if_neg (show ¬ nI 9 < nI 5 by decide), if_neg (show ¬ nI 9 = nI 5 by decide), if_neg (show ¬ nI 9 = nI 6 by decide), if_neg (show ¬ nI 9 = nI 7 by decide), if_neg (show ¬ nI 9 = nI 8 by decide), ↓reduceIte]
    exact mw_iret X rfl rfl (fun H h => ⟨by rw [hop], by rw [hop]; exact h⟩)
set_option maxHeartbeats 4000000 in
set_option maxRecDepth 20000 in
theorem cm_drift {l : Launch} {Γ : mw_C} {mb : Nat} (hmb : Γ.2.2.2 ≤ mb) {W : Nat → Int32} {ρ : md_R} {H : Heap} {x : Int32} (hH : md_I Γ mb W ρ H) (hd : ∀ i, i < 20 → iv 40 (mo_dr i (W, ρ.2.1)).1 ∧ 0 ≤ (mo_dr i (W, ρ.2.1)).2) : mw_Cr l Γ mX5_drift 11 0 0 (md_A mb) [.ref mb, .int x] H (some (.int (op_drift W ρ.2.1 x).1)) (md_I Γ mb (op_drift W ρ.2.1 x).2.1 (ρ.1, (op_drift W ρ.2.1 x).2.2, ρ.2.2.1, ρ.2.2.2.1, ρ.2.2.2.2.1, ρ.2.2.2.2.2.1, ρ.2.2.2.2.2.2)) := by
  refine mw_ofG (P := pX5_drift) (by decide) (md_As hmb) oX5_drift (Nat.le_of_ble_eq_true rfl) ?_
  intro pg e0 sg mg below meth cd X hs
  refine mw_pre (I' := md_I Γ mb W ρ) (fun H1 h1 => by rw [h1]; exact hH) ?_
  refine mw_steps X 3 (pc' := 3) (lv' := [(0, .ref mb), (1, .int x)]) (st' := [.long 1, .long x.toInt64]) rfl ?_
  refine mw_ldc2 X kk_X5_226 rfl ?_
  refine mw_cS3r X kd_X5_in ks_X5_in kl_X5_68 rfl (Nat.le_of_ble_eq_true rfl) ⟨Nat.le_of_ble_eq_true rfl, Nat.le_of_ble_eq_true rfl⟩ ⟨Nat.le_of_ble_eq_true rfl, Nat.le_of_ble_eq_true rfl⟩ (fun _ h => h) (fun H h => cm_in hmb h) ?_
  refine mw_if_ne X 15 rfl rfl (fun c9 => ?_) (fun c9 => ?_)
  · have hin := mo_b_nz c9
    obtain ⟨n, hn1, hn2, rfl⟩ := ml_in20 hin
    refine mw_steps X 4 (pc' := 19) (lv' := [(3, .int (nI 0)), (2, .int (nI 0)), (0, .ref mb), (1, .int (nI n))]) (st' := []) rfl ?_
    refine mw_wf (σ := Nat × Nat) (fun q => n - q.1) (fun q => q.1 ≤ n ∧ q.2 ≤ q.1) (fun q => md_I Γ mb (mo_dr q.1 (W, ρ.2.1)).1 (ρ.1, (mo_dr q.1 (W, ρ.2.1)).2, ρ.2.2.1, ρ.2.2.2.1, ρ.2.2.2.2.1, ρ.2.2.2.2.2.1, ρ.2.2.2.2.2.2)) (fun q => [(3, .int (nI q.1)), (2, .int (nI q.2)), (0, .ref mb), (1, .int (nI n))]) (fun q hq ih => ?_) (0, 0) ⟨Nat.zero_le _, Nat.le_refl _⟩
    obtain ⟨t, k⟩ := q
    obtain ⟨ht, hk⟩ := hq
    dsimp only at ht hk ⊢
    refine mw_steps X 2 (pc' := 21) (lv' := [(3, .int (nI t)), (2, .int (nI k)), (0, .ref mb), (1, .int (nI n))]) (st' := [.int (nI n), .int (nI t)]) rfl ?_
    refine mw_icmp_ge X 46 rfl rfl (fun c21 => ?_) (fun c21 => ?_)
    · have htn : t = n := by rw [nI_leI (by omega) (by omega)] at c21; omega
      refine mw_steps X 1 (pc' := 47) (lv' := [(3, .int (nI t)), (2, .int (nI k)), (0, .ref mb), (1, .int (nI n))]) (st' := [.int (nI k)]) rfl ?_
      refine mw_if_ge X 54 rfl rfl (fun c47 => ?_) (fun c47 => absurd (nI_pos' (by omega)) c47)
      refine mw_steps X 1 (pc' := 55) (lv' := [(3, .int (nI t)), (2, .int (nI k)), (0, .ref mb), (1, .int (nI n))]) (st' := [.ref mb]) rfl ?_
      refine mw_get X kf_X5_7.fl kc_5 rfl (v := .ref (mb + 1)) (fun H h => ⟨_, h.1, rfl⟩) ?_
      refine mw_steps X 1 (pc' := 60) (lv' := [(3, .int (nI t)), (2, .int (nI k)), (0, .ref mb), (1, .int (nI n))]) (st' := [.int (nI 11), .ref (mb + 1)]) rfl ?_
      refine mw_iald X (v := ((mo_dr t (W, ρ.2.1)).1) (11)) (11) rfl rfl (fun H h => ⟨_, _, h.2.1, by omega, by decide, rfl⟩) ?_
      have hop : op_drift W ρ.2.1 (nI n) = ((mo_dr t (W, ρ.2.1)).1 11, (mo_dr t (W, ρ.2.1)).1, (mo_dr t (W, ρ.2.1)).2) := by unfold op_drift; rw [if_pos hin, ml_n (by omega), htn]
      exact mw_iret X rfl rfl (fun H h => ⟨by rw [hop], by rw [hop]; exact h⟩)
    · have htn : t < n := by rw [nI_leI (by omega) (by omega)] at c21; omega
      refine mw_steps X 2 (pc' := 26) (lv' := [(3, .int (nI t)), (2, .int (nI k)), (0, .ref mb), (1, .int (nI n))]) (st' := [.ref mb, .int (nI k)]) rfl ?_
      refine mw_cV0r X kd_X5_chance kv_X5_chance kl_X5_228 (ci := 5) rfl rfl (Nat.le_of_ble_eq_true rfl) ⟨Nat.le_of_ble_eq_true rfl, Nat.le_of_ble_eq_true rfl⟩ ⟨Nat.le_of_ble_eq_true rfl, Nat.le_of_ble_eq_true rfl⟩ (fun _ h => h) (fun H h => ⟨⟨_, h.1⟩, cm_chance hmb h (c := 0) ((hd t (by omega)).1.less (by omega)) (hd t (by omega)).2⟩) ?_
      refine mw_pre (I' := md_I Γ mb (mo_dr (t + 1) (W, ρ.2.1)).1 (ρ.1, (mo_dr (t + 1) (W, ρ.2.1)).2, ρ.2.2.1, ρ.2.2.2.1, ρ.2.2.2.2.1, ρ.2.2.2.2.2.1, ρ.2.2.2.2.2.2)) (fun H h => by rw [ml_driftS]; exact h) ?_
      refine mw_steps X 1 (pc' := 30) (lv' := [(3, .int (nI t)), (2, .int (nI k)), (0, .ref mb), (1, .int (nI n))]) (st' := [.int (-1), .int ((op_chance (mo_dr t (W, ρ.2.1)).1 (mo_dr t (W, ρ.2.1)).2).1), .int (nI k)]) rfl ?_
      refine mw_icmp_lt X 37 rfl rfl (fun c30 => ?_) (fun c30 => ?_)
      · refine mw_steps X 5 (pc' := 19) (lv' := [(3, .int ((nI t) + (nI 1))), (2, .int ((nI k) + (nI 0))), (0, .ref mb), (1, .int (nI n))]) (st' := []) rfl ?_
        refine mw_lveq (lv' := [(3, .int (nI (t + 1))), (2, .int (nI (k))), (0, .ref mb), (1, .int (nI n))]) (by simp only [nI_add, ml_plus0]) ?_
        exact ih (t + 1, k) ⟨by dsimp only; omega, by dsimp only; omega⟩ (by dsimp only; omega)
      · refine mw_steps X 6 (pc' := 19) (lv' := [(3, .int ((nI t) + (nI 1))), (2, .int ((nI k) + (nI 1))), (0, .ref mb), (1, .int (nI n))]) (st' := []) rfl ?_
        refine mw_lveq (lv' := [(3, .int (nI (t + 1))), (2, .int (nI (k + 1))), (0, .ref mb), (1, .int (nI n))]) (by simp only [nI_add]) ?_
        exact ih (t + 1, k + 1) ⟨by dsimp only; omega, by dsimp only; omega⟩ (by dsimp only; omega)
  · refine mw_ldc X kk_X5_138 rfl ?_
    have hop : op_drift W ρ.2.1 x = (oO, W, ρ.2.1) := by unfold op_drift; rw [if_neg (by rw [mo_b_z c9]; decide)]
    exact mw_iret X rfl rfl (fun H h => ⟨by rw [hop], by rw [hop]; exact h⟩)
