/-! frames; the Table -/
theorem mw_Cn.frame {l : Launch} {Γ : mw_C} {d : mw_M} {lev mc ms : Nat} {A : Nat → Prop} {as : List Value} {H : Heap} {E : Option Value → Heap → Prop} (h : mw_Cn l Γ d lev mc ms A as H E) : mw_Cn l Γ d lev mc ms A as H (fun v H' => E v H' ∧ H.size ≤ H'.size ∧ ∀ q : Nat, q < H.size → ¬ A q → H'[q]? = H[q]?) := by
  intro p e ha hc hk s m args below hf happ hP hT
  obtain ⟨t, o, h1, h2, h3, ⟨⟨v, hv, hE1⟩, hF⟩, hL⟩ := h p e ha hc hk s m args below hf happ hP hT
  have hH := hP.2.2
  have hF2 := hF
  unfold va_F at hF2
  exact ⟨t, o, h1, h2, h3, ⟨⟨v, hv, hE1, by rw [← hH]; exact hF2.1, by rw [← hH]; exact hF2.2⟩, hF⟩, hL⟩
/-- the same contract with a wider picture: what the frame keeps is told too -/
theorem mw_Cr.wide {l : Launch} {Γ : mw_C} {d : mw_M} {lev mc ms : Nat} {A : Nat → Prop} {as : List Value} {H : Heap} {ov : Option Value} {J J' : Heap → Prop} (h : mw_Cr l Γ d lev mc ms A as H ov J) (hJ : ∀ H', J H' → H.size ≤ H'.size → (∀ q : Nat, q < H.size → ¬ A q → H'[q]? = H[q]?) → J' H') : mw_Cr l Γ d lev mc ms A as H ov J' :=
  mw_Cn.mono (mw_Cn.frame h) (fun v H' h1 => ⟨h1.1.1, hJ H' h1.1.2 h1.2.1 h1.2.2⟩)
/-- a contract may write less than it may -/
theorem ml_sub {a b : Nat} (h : b ≤ a) : nI a - nI b = nI (a - b) := by
  have h1 := nI_add (a - b) b
  rw [Nat.sub_add_cancel h] at h1
  rw [← h1, Int32.add_sub_cancel]
def tb_I (Γ : mw_C) (t L C : Nat) (n : Int32) (f : Nat → Int32) (H : Heap) : Prop := mw_ob Γ t 2 [.int (nI L), .int (nI C), .ref (t + 1), .int n] H ∧ mw_ia Γ (t + 1) (6 * L) f H
def tb_A (t : Nat) : Nat → Prop := fun q => q = t ∨ q = t + 1
theorem tb_As {Γ : mw_C} {t : Nat} (h : Γ.2.2.2 ≤ t) : ∀ q, tb_A t q → Γ.2.2.2 ≤ q := fun _ hq => hq.elim (fun e => by omega) (fun e => by omega)
theorem tb_I.stc {Γ : mw_C} {t L C : Nat} {n : Int32} {f f' : Nat → Int32} {H H1 : Heap} (h : tb_I Γ t L C n f H) (o : mw_one (t + 1) H H1) (c : mw_ia Γ (t + 1) (6 * L) f' H1) : tb_I Γ t L C n f' H1 := ⟨h.1.kept (o.2 _ (by omega)), c⟩
theorem tb_I.stn {Γ : mw_C} {t L C : Nat} {n n' : Int32} {f : Nat → Int32} {H H1 : Heap} (h : tb_I Γ t L C n f H) (o : mw_one t H H1) (c : mw_ob Γ t 2 [.int (nI L), .int (nI C), .ref (t + 1), .int n'] H1) : tb_I Γ t L C n' f H1 := ⟨c, h.2.kept (o.2 _ (by omega))⟩
set_option maxHeartbeats 4000000 in
set_option maxRecDepth 20000 in
theorem ct_size {l : Launch} {Γ : mw_C} {t L C m : Nat} {f : Nat → Int32} (ht : Γ.2.2.2 ≤ t) {H : Heap}  (hH : tb_I Γ t L C (nI m) f H) (hm : m ≤ L) (hL : L ≤ 24) (hC : C ≤ 6)  : mw_Cr l Γ mX2_size 1 0 0 (tb_A t) [.ref t] H (some (.int (nI m))) (tb_I Γ t L C (nI m) f) := by
  refine mw_ofG (P := pX2_size) (by decide) (tb_As ht) oX2_size (Nat.le_of_ble_eq_true rfl) ?_
  intro pg e0 sg mg below meth cd X hs
  refine mw_pre (I' := tb_I Γ t L C (nI m) f) (fun H1 h1 => by rw [h1]; exact hH) ?_
  refine mw_steps X 1 (pc' := 1) (lv' := [(0, .ref t)]) (st' := [.ref t]) rfl ?_
  refine mw_get X kf_X2_31.fl kc_2 rfl (v := .int (nI m)) (fun H h => ⟨_, h.1, rfl⟩) ?_
  exact mw_iret X rfl rfl (fun H h => ⟨rfl, h⟩)
set_option maxHeartbeats 4000000 in
set_option maxRecDepth 20000 in
theorem ct_isFull {l : Launch} {Γ : mw_C} {t L C m : Nat} {f : Nat → Int32} (ht : Γ.2.2.2 ≤ t) {H : Heap}  (hH : tb_I Γ t L C (nI m) f H) (hm : m ≤ L) (hL : L ≤ 24) (hC : C ≤ 6)  : mw_Cr l Γ mX2_isFull 1 0 0 (tb_A t) [.ref t] H (some (.int (mo_b (decide (L ≤ m))))) (tb_I Γ t L C (nI m) f) := by
  refine mw_ofG (P := pX2_isFull) (by decide) (tb_As ht) oX2_isFull (Nat.le_of_ble_eq_true rfl) ?_
  intro pg e0 sg mg below meth cd X hs
  refine mw_pre (I' := tb_I Γ t L C (nI m) f) (fun H1 h1 => by rw [h1]; exact hH) ?_
  refine mw_steps X 1 (pc' := 1) (lv' := [(0, .ref t)]) (st' := [.ref t]) rfl ?_
  refine mw_get X kf_X2_31.fl kc_2 rfl (v := .int (nI m)) (fun H h => ⟨_, h.1, rfl⟩) ?_
  refine mw_steps X 1 (pc' := 5) (lv' := [(0, .ref t)]) (st' := [.ref t, .int (nI m)]) rfl ?_
  refine mw_get X kf_X2_15.fl kc_2 rfl (v := .int (nI L)) (fun H h => ⟨_, h.1, rfl⟩) ?_
  refine mw_icmp_lt X 15 rfl rfl (fun c8 => ?_) (fun c8 => ?_)
  · refine mw_steps X 1 (pc' := 16) (lv' := [(0, .ref t)]) (st' := [.int (nI 0)]) rfl ?_
    exact mw_zret X rfl (by decide) rfl (fun H h => ⟨by rw [show decide (L ≤ m) = false from decide_eq_false (by rw [nI_ltI (by omega) (by omega)] at c8; omega)]; rfl, h⟩)
  · refine mw_steps X 2 (pc' := 16) (lv' := [(0, .ref t)]) (st' := [.int (nI 1)]) rfl ?_
    exact mw_zret X rfl (by decide) rfl (fun H h => ⟨by rw [show decide (L ≤ m) = true from decide_eq_true (by rw [nI_ltI (by omega) (by omega)] at c8; omega)]; rfl, h⟩)
set_option maxHeartbeats 4000000 in
set_option maxRecDepth 20000 in
theorem ct_hasRow {l : Launch} {Γ : mw_C} {t L C m : Nat} {f : Nat → Int32} (ht : Γ.2.2.2 ≤ t) {H : Heap} {x : Int32} (hH : tb_I Γ t L C (nI m) f H) (hm : m ≤ L) (hL : L ≤ 24) (hC : C ≤ 6)  : mw_Cr l Γ mX2_hasRow 1 0 0 (tb_A t) [.ref t, .int x] H (some (.int (mo_b (mo_bl x m)))) (tb_I Γ t L C (nI m) f) := by
  refine mw_ofG (P := pX2_hasRow) (by decide) (tb_As ht) oX2_hasRow (Nat.le_of_ble_eq_true rfl) ?_
  intro pg e0 sg mg below meth cd X hs
  refine mw_pre (I' := tb_I Γ t L C (nI m) f) (fun H1 h1 => by rw [h1]; exact hH) ?_
  refine mw_steps X 1 (pc' := 1) (lv' := [(0, .ref t), (1, .int x)]) (st' := [.int x]) rfl ?_
  refine mw_if_lt X 16 rfl rfl (fun c1 => ?_) (fun c1 => ?_)
  · refine mw_steps X 1 (pc' := 17) (lv' := [(0, .ref t), (1, .int x)]) (st' := [.int (nI 0)]) rfl ?_
    exact mw_zret X rfl (by decide) rfl (fun H h => ⟨by rw [show mo_bl x m = false from (by unfold mo_bl; first | (rw [decide_eq_false (Int32.not_le.mpr c1)]; rfl) | (rw [decide_eq_false (Int32.not_lt.mpr c9)]; exact Bool.and_false _))]; rfl, h⟩)
  · refine mw_steps X 2 (pc' := 6) (lv' := [(0, .ref t), (1, .int x)]) (st' := [.ref t, .int x]) rfl ?_
    refine mw_get X kf_X2_31.fl kc_2 rfl (v := .int (nI m)) (fun H h => ⟨_, h.1, rfl⟩) ?_
    refine mw_icmp_ge X 16 rfl rfl (fun c9 => ?_) (fun c9 => ?_)
    · refine mw_steps X 1 (pc' := 17) (lv' := [(0, .ref t), (1, .int x)]) (st' := [.int (nI 0)]) rfl ?_
      exact mw_zret X rfl (by decide) rfl (fun H h => ⟨by rw [show mo_bl x m = false from (by unfold mo_bl; first | (rw [decide_eq_false (Int32.not_le.mpr c1)]; rfl) | (rw [decide_eq_false (Int32.not_lt.mpr c9)]; exact Bool.and_false _))]; rfl, h⟩)
    · refine mw_steps X 2 (pc' := 17) (lv' := [(0, .ref t), (1, .int x)]) (st' := [.int (nI 1)]) rfl ?_
      exact mw_zret X rfl (by decide) rfl (fun H h => ⟨by rw [show mo_bl x m = true from (by unfold mo_bl; rw [decide_eq_true (Int32.not_lt.mp c1), decide_eq_true (Int32.not_le.mp c9)]; rfl)]; rfl, h⟩)
set_option maxHeartbeats 4000000 in
set_option maxRecDepth 20000 in
theorem ct_hasCol {l : Launch} {Γ : mw_C} {t L C m : Nat} {f : Nat → Int32} (ht : Γ.2.2.2 ≤ t) {H : Heap} {x : Int32} (hH : tb_I Γ t L C (nI m) f H) (hm : m ≤ L) (hL : L ≤ 24) (hC : C ≤ 6)  : mw_Cr l Γ mX2_hasColumn 1 0 0 (tb_A t) [.ref t, .int x] H (some (.int (mo_b (mo_bl x C)))) (tb_I Γ t L C (nI m) f) := by
  refine mw_ofG (P := pX2_hasColumn) (by decide) (tb_As ht) oX2_hasColumn (Nat.le_of_ble_eq_true rfl) ?_
  intro pg e0 sg mg below meth cd X hs
  refine mw_pre (I' := tb_I Γ t L C (nI m) f) (fun H1 h1 => by rw [h1]; exact hH) ?_
  refine mw_steps X 1 (pc' := 1) (lv' := [(0, .ref t), (1, .int x)]) (st' := [.int x]) rfl ?_
  refine mw_if_lt X 16 rfl rfl (fun c1 => ?_) (fun c1 => ?_)
  · refine mw_steps X 1 (pc' := 17) (lv' := [(0, .ref t), (1, .int x)]) (st' := [.int (nI 0)]) rfl ?_
    exact mw_zret X rfl (by decide) rfl (fun H h => ⟨by rw [show mo_bl x C = false from (by unfold mo_bl; first | (rw [decide_eq_false (Int32.not_le.mpr c1)]; rfl) | (rw [decide_eq_false (Int32.not_lt.mpr c9)]; exact Bool.and_false _))]; rfl, h⟩)
  · refine mw_steps X 2 (pc' := 6) (lv' := [(0, .ref t), (1, .int x)]) (st' := [.ref t, .int x]) rfl ?_
    refine mw_get X kf_X2_24.fl kc_2 rfl (v := .int (nI C)) (fun H h => ⟨_, h.1, rfl⟩) ?_
    refine mw_icmp_ge X 16 rfl rfl (fun c9 => ?_) (fun c9 => ?_)
    · refine mw_steps X 1 (pc' := 17) (lv' := [(0, .ref t), (1, .int x)]) (st' := [.int (nI 0)]) rfl ?_
      exact mw_zret X rfl (by decide) rfl (fun H h => ⟨by rw [show mo_bl x C = false from (by unfold mo_bl; first | (rw [decide_eq_false (Int32.not_le.mpr c1)]; rfl) | (rw [decide_eq_false (Int32.not_lt.mpr c9)]; exact Bool.and_false _))]; rfl, h⟩)
    · refine mw_steps X 2 (pc' := 17) (lv' := [(0, .ref t), (1, .int x)]) (st' := [.int (nI 1)]) rfl ?_
      exact mw_zret X rfl (by decide) rfl (fun H h => ⟨by rw [show mo_bl x C = true from (by unfold mo_bl; rw [decide_eq_true (Int32.not_lt.mp c1), decide_eq_true (Int32.not_le.mp c9)]; rfl)]; rfl, h⟩)
set_option maxHeartbeats 4000000 in
set_option maxRecDepth 20000 in
theorem ct_at {l : Launch} {Γ : mw_C} {t L C m : Nat} {f : Nat → Int32} (ht : Γ.2.2.2 ≤ t) {H : Heap} {k j : Nat} (hH : tb_I Γ t L C (nI m) f H) (hm : m ≤ L) (hL : L ≤ 24) (hC : C ≤ 6) (hk : k < m) (hj : j < C) : mw_Cr l Γ mX2_at 1 0 0 (tb_A t) [.ref t, .int (nI k), .int (nI j)] H (some (.int (f (k * 6 + j)))) (tb_I Γ t L C (nI m) f) := by
  refine mw_ofG (P := pX2_at) (by decide) (tb_As ht) oX2_at (Nat.le_of_ble_eq_true rfl) ?_
  intro pg e0 sg mg below meth cd X hs
  refine mw_pre (I' := tb_I Γ t L C (nI m) f) (fun H1 h1 => by rw [h1]; exact hH) ?_
  refine mw_steps X 7 (pc' := 8) (lv' := [(3, .int (((nI k) * (nI 6)) + (nI j))), (0, .ref t), (1, .int (nI k)), (2, .int (nI j))]) (st' := [.int (nI k)]) rfl ?_
  refine mw_if_lt X 44 rfl rfl (fun c8 => absurd c8 (nI_pos (by omega))) (fun c8 => ?_)
  refine mw_steps X 2 (pc' := 13) (lv' := [(3, .int (((nI k) * (nI 6)) + (nI j))), (0, .ref t), (1, .int (nI k)), (2, .int (nI j))]) (st' := [.ref t, .int (nI k)]) rfl ?_
  refine mw_get X kf_X2_31.fl kc_2 rfl (v := .int (nI m)) (fun H h => ⟨_, h.1, rfl⟩) ?_
  refine mw_icmp_ge X 44 rfl rfl (fun c16 => absurd c16 (by rw [nI_leI (by omega) (by omega)]; omega)) (fun c16 => ?_)
  refine mw_steps X 1 (pc' := 20) (lv' := [(3, .int (((nI k) * (nI 6)) + (nI j))), (0, .ref t), (1, .int (nI k)), (2, .int (nI j))]) (st' := [.int (nI j)]) rfl ?_
  refine mw_if_lt X 44 rfl rfl (fun c20 => absurd c20 (nI_pos (by omega))) (fun c20 => ?_)
  refine mw_steps X 2 (pc' := 25) (lv' := [(3, .int (((nI k) * (nI 6)) + (nI j))), (0, .ref t), (1, .int (nI k)), (2, .int (nI j))]) (st' := [.ref t, .int (nI j)]) rfl ?_
  refine mw_get X kf_X2_24.fl kc_2 rfl (v := .int (nI C)) (fun H h => ⟨_, h.1, rfl⟩) ?_
  refine mw_icmp_ge X 44 rfl rfl (fun c28 => absurd c28 (by rw [nI_leI (by omega) (by omega)]; omega)) (fun c28 => ?_)
  refine mw_steps X 2 (pc' := 33) (lv' := [(3, .int (((nI k) * (nI 6)) + (nI j))), (0, .ref t), (1, .int (nI k)), (2, .int (nI j))]) (st' := [.ref t, .int (((nI k) * (nI 6)) + (nI j))]) rfl ?_
  refine mw_get X kf_X2_27.fl kc_2 rfl (v := .ref (t + 1)) (fun H h => ⟨_, h.1, rfl⟩) ?_
  refine mw_ilen X (6 * L) rfl (fun H h => ⟨_, h.2⟩) ?_
  refine mw_icmp_ge X 44 rfl rfl (fun c37 => absurd c37 (by rw [pk_mul, nI_add, nI_leI (by omega) (by omega)]; omega)) (fun c37 => ?_)
  refine mw_steps X 4 (pc' := 49) (lv' := [(4, .int (nI 1)), (3, .int (((nI k) * (nI 6)) + (nI j))), (0, .ref t), (1, .int (nI k)), (2, .int (nI j))]) (st' := [.int (nI 1)]) rfl ?_
  refine mw_if_eq X 61 rfl rfl (fun c49 => absurd c49 (by decide)) (fun c49 => ?_)
  refine mw_steps X 1 (pc' := 53) (lv' := [(4, .int (nI 1)), (3, .int (((nI k) * (nI 6)) + (nI j))), (0, .ref t), (1, .int (nI k)), (2, .int (nI j))]) (st' := [.ref t]) rfl ?_
  refine mw_get X kf_X2_27.fl kc_2 rfl (v := .ref (t + 1)) (fun H h => ⟨_, h.1, rfl⟩) ?_
  refine mw_steps X 1 (pc' := 57) (lv' := [(4, .int (nI 1)), (3, .int (((nI k) * (nI 6)) + (nI j))), (0, .ref t), (1, .int (nI k)), (2, .int (nI j))]) (st' := [.int (((nI k) * (nI 6)) + (nI j)), .ref (t + 1)]) rfl ?_
  refine mw_iald X (v := f (k * 6 + j)) (k * 6 + j) (by simp only [nI_add, pk_mul]) rfl (fun H h => ⟨_, _, h.2, by omega, by omega, rfl⟩) ?_
  refine mw_steps X 1 (pc' := 62) (lv' := [(4, .int (nI 1)), (3, .int (((nI k) * (nI 6)) + (nI j))), (0, .ref t), (1, .int (nI k)), (2, .int (nI j))]) (st' := [.int (f (k * 6 + j))]) rfl ?_
  exact mw_iret X rfl rfl (fun H h => ⟨rfl, h⟩)
set_option maxHeartbeats 4000000 in
set_option maxRecDepth 20000 in
theorem ct_atN {l : Launch} {Γ : mw_C} {t L C m : Nat} {f : Nat → Int32} (ht : Γ.2.2.2 ≤ t) {H : Heap} {y : Int32} (hH : tb_I Γ t L C (nI m) f H) (hm : m ≤ L) (hL : L ≤ 24) (hC : C ≤ 6)  : mw_Cr l Γ mX2_at 1 0 0 (tb_A t) [.ref t, .int (-1), .int y] H (some (.int (-1))) (tb_I Γ t L C (nI m) f) := by
  refine mw_ofG (P := pX2_at) (by decide) (tb_As ht) oX2_at (Nat.le_of_ble_eq_true rfl) ?_
  intro pg e0 sg mg below meth cd X hs
  refine mw_pre (I' := tb_I Γ t L C (nI m) f) (fun H1 h1 => by rw [h1]; exact hH) ?_
  refine mw_steps X 7 (pc' := 8) (lv' := [(3, .int (((-1) * (nI 6)) + y)), (0, .ref t), (1, .int (-1)), (2, .int y)]) (st' := [.int (-1)]) rfl ?_
  refine mw_if_lt X 44 rfl rfl (fun c8 => ?_) (fun c8 => absurd (by decide) c8)
  refine mw_steps X 3 (pc' := 49) (lv' := [(4, .int (nI 0)), (3, .int (((-1) * (nI 6)) + y)), (0, .ref t), (1, .int (-1)), (2, .int y)]) (st' := [.int (nI 0)]) rfl ?_
  refine mw_if_eq X 61 rfl rfl (fun c49 => ?_) (fun c49 => absurd (by decide) c49)
  refine mw_steps X 1 (pc' := 62) (lv' := [(4, .int (nI 0)), (3, .int (((-1) * (nI 6)) + y)), (0, .ref t), (1, .int (-1)), (2, .int y)]) (st' := [.int (-1)]) rfl ?_
  exact mw_iret X rfl rfl (fun H h => ⟨rfl, h⟩)
set_option maxHeartbeats 4000000 in
set_option maxRecDepth 20000 in
theorem ct_put {l : Launch} {Γ : mw_C} {t L C m : Nat} {f : Nat → Int32} (ht : Γ.2.2.2 ≤ t) {H : Heap} {k j : Nat} {x : Int32} (hH : tb_I Γ t L C (nI m) f H) (hm : m ≤ L) (hL : L ≤ 24) (hC : C ≤ 6) (hk : k < m) (hj : j < C) : mw_Cr l Γ mX2_put 1 0 0 (tb_A t) [.ref t, .int (nI k), .int (nI j), .int x] H none (tb_I Γ t L C (nI m) (upd f (k * 6 + j) x)) := by
  refine mw_ofG (P := pX2_put) (by decide) (tb_As ht) oX2_put (Nat.le_of_ble_eq_true rfl) ?_
  intro pg e0 sg mg below meth cd X hs
  refine mw_pre (I' := tb_I Γ t L C (nI m) f) (fun H1 h1 => by rw [h1]; exact hH) ?_
  refine mw_steps X 7 (pc' := 9) (lv' := [(4, .int (((nI k) * (nI 6)) + (nI j))), (0, .ref t), (1, .int (nI k)), (2, .int (nI j)), (3, .int x)]) (st' := [.int (nI k)]) rfl ?_
  refine mw_if_lt X 50 rfl rfl (fun c9 => absurd c9 (nI_pos (by omega))) (fun c9 => ?_)
  refine mw_steps X 2 (pc' := 14) (lv' := [(4, .int (((nI k) * (nI 6)) + (nI j))), (0, .ref t), (1, .int (nI k)), (2, .int (nI j)), (3, .int x)]) (st' := [.ref t, .int (nI k)]) rfl ?_
  refine mw_get X kf_X2_31.fl kc_2 rfl (v := .int (nI m)) (fun H h => ⟨_, h.1, rfl⟩) ?_
  refine mw_icmp_ge X 50 rfl rfl (fun c17 => absurd c17 (by rw [nI_leI (by omega) (by omega)]; omega)) (fun c17 => ?_)
  refine mw_steps X 1 (pc' := 21) (lv' := [(4, .int (((nI k) * (nI 6)) + (nI j))), (0, .ref t), (1, .int (nI k)), (2, .int (nI j)), (3, .int x)]) (st' := [.int (nI j)]) rfl ?_
  refine mw_if_lt X 50 rfl rfl (fun c21 => absurd c21 (nI_pos (by omega))) (fun c21 => ?_)
  refine mw_steps X 2 (pc' := 26) (lv' := [(4, .int (((nI k) * (nI 6)) + (nI j))), (0, .ref t), (1, .int (nI k)), (2, .int (nI j)), (3, .int x)]) (st' := [.ref t, .int (nI j)]) rfl ?_
  refine mw_get X kf_X2_24.fl kc_2 rfl (v := .int (nI C)) (fun H h => ⟨_, h.1, rfl⟩) ?_
  refine mw_icmp_ge X 50 rfl rfl (fun c29 => absurd c29 (by rw [nI_leI (by omega) (by omega)]; omega)) (fun c29 => ?_)
  refine mw_steps X 2 (pc' := 35) (lv' := [(4, .int (((nI k) * (nI 6)) + (nI j))), (0, .ref t), (1, .int (nI k)), (2, .int (nI j)), (3, .int x)]) (st' := [.ref t, .int (((nI k) * (nI 6)) + (nI j))]) rfl ?_
  refine mw_get X kf_X2_27.fl kc_2 rfl (v := .ref (t + 1)) (fun H h => ⟨_, h.1, rfl⟩) ?_
  refine mw_ilen X (6 * L) rfl (fun H h => ⟨_, h.2⟩) ?_
  refine mw_icmp_ge X 50 rfl rfl (fun c39 => absurd c39 (by rw [pk_mul, nI_add, nI_leI (by omega) (by omega)]; omega)) (fun c39 => ?_)
  refine mw_steps X 1 (pc' := 43) (lv' := [(4, .int (((nI k) * (nI 6)) + (nI j))), (0, .ref t), (1, .int (nI k)), (2, .int (nI j)), (3, .int x)]) (st' := [.ref t]) rfl ?_
  refine mw_get X kf_X2_27.fl kc_2 rfl (v := .ref (t + 1)) (fun H h => ⟨_, h.1, rfl⟩) ?_
  refine mw_steps X 2 (pc' := 49) (lv' := [(4, .int (((nI k) * (nI 6)) + (nI j))), (0, .ref t), (1, .int (nI k)), (2, .int (nI j)), (3, .int x)]) (st' := [.int x, .int (((nI k) * (nI 6)) + (nI j)), .ref (t + 1)]) rfl ?_
  refine mw_iast X (I1 := tb_I Γ t L C (nI m) (upd f (k * 6 + j) x)) (k * 6 + j) (by simp only [nI_add, pk_mul]) rfl (fun H h => ⟨Or.inr rfl, _, _, h.2, by omega, by omega, fun H1 o c => h.stc o c⟩) ?_
  exact mw_vret X rfl rfl (fun H h => ⟨rfl, h⟩)
set_option maxHeartbeats 4000000 in
set_option maxRecDepth 20000 in
theorem ct_putN {l : Launch} {Γ : mw_C} {t L C m : Nat} {f : Nat → Int32} (ht : Γ.2.2.2 ≤ t) {H : Heap} {x y : Int32} (hH : tb_I Γ t L C (nI m) f H) (hm : m ≤ L) (hL : L ≤ 24) (hC : C ≤ 6)  : mw_Cr l Γ mX2_put 1 0 0 (tb_A t) [.ref t, .int (-1), .int y, .int x] H none (tb_I Γ t L C (nI m) f) := by
  refine mw_ofG (P := pX2_put) (by decide) (tb_As ht) oX2_put (Nat.le_of_ble_eq_true rfl) ?_
  intro pg e0 sg mg below meth cd X hs
  refine mw_pre (I' := tb_I Γ t L C (nI m) f) (fun H1 h1 => by rw [h1]; exact hH) ?_
  refine mw_steps X 7 (pc' := 9) (lv' := [(4, .int (((-1) * (nI 6)) + y)), (0, .ref t), (1, .int (-1)), (2, .int y), (3, .int x)]) (st' := [.int (-1)]) rfl ?_
  refine mw_if_lt X 50 rfl rfl (fun c9 => ?_) (fun c9 => absurd (by decide) c9)
  exact mw_vret X rfl rfl (fun H h => ⟨rfl, h⟩)
set_option maxHeartbeats 4000000 in
set_option maxRecDepth 20000 in
theorem ct_add {l : Launch} {Γ : mw_C} {t L C m : Nat} {f : Nat → Int32} (ht : Γ.2.2.2 ≤ t) {H : Heap} {a0 a1 a2 a3 a4 a5 : Int32} (hH : tb_I Γ t L C (nI m) f H) (hm : m ≤ L) (hL : L ≤ 24) (hC : C ≤ 6) (hk : m < L) : mw_Cr l Γ mX2_add 1 0 0 (tb_A t) [.ref t, .int a0, .int a1, .int a2, .int a3, .int a4, .int a5] H none (tb_I Γ t L C (nI m + nI 1) (upd (upd (upd (upd (upd (upd f (m * 6) a0) (m * 6 + 1) a1) (m * 6 + 2) a2) (m * 6 + 3) a3) (m * 6 + 4) a4) (m * 6 + 5) a5)) := by
  refine mw_ofG (P := pX2_add) (by decide) (tb_As ht) oX2_add (Nat.le_of_ble_eq_true rfl) ?_
  intro pg e0 sg mg below meth cd X hs
  refine mw_pre (I' := tb_I Γ t L C (nI m) f) (fun H1 h1 => by rw [h1]; exact hH) ?_
  refine mw_steps X 1 (pc' := 1) (lv' := [(0, .ref t), (1, .int a0), (2, .int a1), (3, .int a2), (4, .int a3), (5, .int a4), (6, .int a5)]) (st' := [.ref t]) rfl ?_
  refine mw_get X kf_X2_31.fl kc_2 rfl (v := .int (nI m)) (fun H h => ⟨_, h.1, rfl⟩) ?_
  refine mw_steps X 4 (pc' := 10) (lv' := [(7, .int ((nI m) * (nI 6))), (0, .ref t), (1, .int a0), (2, .int a1), (3, .int a2), (4, .int a3), (5, .int a4), (6, .int a5)]) (st' := [.ref t]) rfl ?_
  refine mw_get X kf_X2_31.fl kc_2 rfl (v := .int (nI m)) (fun H h => ⟨_, h.1, rfl⟩) ?_
  refine mw_if_lt X 40 rfl rfl (fun c13 => absurd c13 (nI_pos (by omega))) (fun c13 => ?_)
  refine mw_steps X 1 (pc' := 17) (lv' := [(7, .int ((nI m) * (nI 6))), (0, .ref t), (1, .int a0), (2, .int a1), (3, .int a2), (4, .int a3), (5, .int a4), (6, .int a5)]) (st' := [.ref t]) rfl ?_
  refine mw_get X kf_X2_31.fl kc_2 rfl (v := .int (nI m)) (fun H h => ⟨_, h.1, rfl⟩) ?_
  refine mw_steps X 1 (pc' := 21) (lv' := [(7, .int ((nI m) * (nI 6))), (0, .ref t), (1, .int a0), (2, .int a1), (3, .int a2), (4, .int a3), (5, .int a4), (6, .int a5)]) (st' := [.ref t, .int (nI m)]) rfl ?_
  refine mw_get X kf_X2_15.fl kc_2 rfl (v := .int (nI L)) (fun H h => ⟨_, h.1, rfl⟩) ?_
  refine mw_icmp_ge X 40 rfl rfl (fun c24 => absurd c24 (by rw [nI_leI (by omega) (by omega)]; omega)) (fun c24 => ?_)
  refine mw_steps X 4 (pc' := 33) (lv' := [(7, .int ((nI m) * (nI 6))), (0, .ref t), (1, .int a0), (2, .int a1), (3, .int a2), (4, .int a3), (5, .int a4), (6, .int a5)]) (st' := [.ref t, .int (((nI m) * (nI 6)) + (nI 6))]) rfl ?_
  refine mw_get X kf_X2_27.fl kc_2 rfl (v := .ref (t + 1)) (fun H h => ⟨_, h.1, rfl⟩) ?_
  refine mw_ilen X (6 * L) rfl (fun H h => ⟨_, h.2⟩) ?_
  refine mw_icmp_le X 41 rfl rfl (fun c37 => ?_) (fun c37 => absurd (by rw [pk_mul, nI_add, nI_leI (by omega) (by omega)]; omega) c37)
  refine mw_steps X 1 (pc' := 42) (lv' := [(7, .int ((nI m) * (nI 6))), (0, .ref t), (1, .int a0), (2, .int a1), (3, .int a2), (4, .int a3), (5, .int a4), (6, .int a5)]) (st' := [.ref t]) rfl ?_
  refine mw_get X kf_X2_27.fl kc_2 rfl (v := .ref (t + 1)) (fun H h => ⟨_, h.1, rfl⟩) ?_
  refine mw_steps X 2 (pc' := 48) (lv' := [(7, .int ((nI m) * (nI 6))), (0, .ref t), (1, .int a0), (2, .int a1), (3, .int a2), (4, .int a3), (5, .int a4), (6, .int a5)]) (st' := [.int a0, .int ((nI m) * (nI 6)), .ref (t + 1)]) rfl ?_
  refine mw_iast X (I1 := tb_I Γ t L C (nI m) (upd f (m * 6) a0)) (m * 6) (by simp only [nI_add, pk_mul]) rfl (fun H h => ⟨Or.inr rfl, _, _, h.2, by omega, by omega, fun H1 o c => h.stc o c⟩) ?_
  refine mw_steps X 1 (pc' := 50) (lv' := [(7, .int ((nI m) * (nI 6))), (0, .ref t), (1, .int a0), (2, .int a1), (3, .int a2), (4, .int a3), (5, .int a4), (6, .int a5)]) (st' := [.ref t]) rfl ?_
  refine mw_get X kf_X2_27.fl kc_2 rfl (v := .ref (t + 1)) (fun H h => ⟨_, h.1, rfl⟩) ?_
  refine mw_steps X 4 (pc' := 58) (lv' := [(7, .int ((nI m) * (nI 6))), (0, .ref t), (1, .int a0), (2, .int a1), (3, .int a2), (4, .int a3), (5, .int a4), (6, .int a5)]) (st' := [.int a1, .int (((nI m) * (nI 6)) + (nI 1)), .ref (t + 1)]) rfl ?_
  refine mw_iast X (I1 := tb_I Γ t L C (nI m) (upd (upd f (m * 6) a0) (m * 6 + 1) a1)) (m * 6 + 1) (by simp only [nI_add, pk_mul]) rfl (fun H h => ⟨Or.inr rfl, _, _, h.2, by omega, by omega, fun H1 o c => h.stc o c⟩) ?_
  refine mw_steps X 1 (pc' := 60) (lv' := [(7, .int ((nI m) * (nI 6))), (0, .ref t), (1, .int a0), (2, .int a1), (3, .int a2), (4, .int a3), (5, .int a4), (6, .int a5)]) (st' := [.ref t]) rfl ?_
  refine mw_get X kf_X2_27.fl kc_2 rfl (v := .ref (t + 1)) (fun H h => ⟨_, h.1, rfl⟩) ?_
  refine mw_steps X 4 (pc' := 68) (lv' := [(7, .int ((nI m) * (nI 6))), (0, .ref t), (1, .int a0), (2, .int a1), (3, .int a2), (4, .int a3), (5, .int a4), (6, .int a5)]) (st' := [.int a2, .int (((nI m) * (nI 6)) + (nI 2)), .ref (t + 1)]) rfl ?_
  refine mw_iast X (I1 := tb_I Γ t L C (nI m) (upd (upd (upd f (m * 6) a0) (m * 6 + 1) a1) (m * 6 + 2) a2)) (m * 6 + 2) (by simp only [nI_add, pk_mul]) rfl (fun H h => ⟨Or.inr rfl, _, _, h.2, by omega, by omega, fun H1 o c => h.stc o c⟩) ?_
  refine mw_steps X 1 (pc' := 70) (lv' := [(7, .int ((nI m) * (nI 6))), (0, .ref t), (1, .int a0), (2, .int a1), (3, .int a2), (4, .int a3), (5, .int a4), (6, .int a5)]) (st' := [.ref t]) rfl ?_
  refine mw_get X kf_X2_27.fl kc_2 rfl (v := .ref (t + 1)) (fun H h => ⟨_, h.1, rfl⟩) ?_
  refine mw_steps X 4 (pc' := 79) (lv' := [(7, .int ((nI m) * (nI 6))), (0, .ref t), (1, .int a0), (2, .int a1), (3, .int a2), (4, .int a3), (5, .int a4), (6, .int a5)]) (st' := [.int a3, .int (((nI m) * (nI 6)) + (nI 3)), .ref (t + 1)]) rfl ?_
  refine mw_iast X (I1 := tb_I Γ t L C (nI m) (upd (upd (upd (upd f (m * 6) a0) (m * 6 + 1) a1) (m * 6 + 2) a2) (m * 6 + 3) a3)) (m * 6 + 3) (by simp only [nI_add, pk_mul]) rfl (fun H h => ⟨Or.inr rfl, _, _, h.2, by omega, by omega, fun H1 o c => h.stc o c⟩) ?_
  refine mw_steps X 1 (pc' := 81) (lv' := [(7, .int ((nI m) * (nI 6))), (0, .ref t), (1, .int a0), (2, .int a1), (3, .int a2), (4, .int a3), (5, .int a4), (6, .int a5)]) (st' := [.ref t]) rfl ?_
  refine mw_get X kf_X2_27.fl kc_2 rfl (v := .ref (t + 1)) (fun H h => ⟨_, h.1, rfl⟩) ?_
  refine mw_steps X 4 (pc' := 90) (lv' := [(7, .int ((nI m) * (nI 6))), (0, .ref t), (1, .int a0), (2, .int a1), (3, .int a2), (4, .int a3), (5, .int a4), (6, .int a5)]) (st' := [.int a4, .int (((nI m) * (nI 6)) + (nI 4)), .ref (t + 1)]) rfl ?_
  refine mw_iast X (I1 := tb_I Γ t L C (nI m) (upd (upd (upd (upd (upd f (m * 6) a0) (m * 6 + 1) a1) (m * 6 + 2) a2) (m * 6 + 3) a3) (m * 6 + 4) a4)) (m * 6 + 4) (by simp only [nI_add, pk_mul]) rfl (fun H h => ⟨Or.inr rfl, _, _, h.2, by omega, by omega, fun H1 o c => h.stc o c⟩) ?_
  refine mw_steps X 1 (pc' := 92) (lv' := [(7, .int ((nI m) * (nI 6))), (0, .ref t), (1, .int a0), (2, .int a1), (3, .int a2), (4, .int a3), (5, .int a4), (6, .int a5)]) (st' := [.ref t]) rfl ?_
  refine mw_get X kf_X2_27.fl kc_2 rfl (v := .ref (t + 1)) (fun H h => ⟨_, h.1, rfl⟩) ?_
  refine mw_steps X 4 (pc' := 101) (lv' := [(7, .int ((nI m) * (nI 6))), (0, .ref t), (1, .int a0), (2, .int a1), (3, .int a2), (4, .int a3), (5, .int a4), (6, .int a5)]) (st' := [.int a5, .int (((nI m) * (nI 6)) + (nI 5)), .ref (t + 1)]) rfl ?_
  refine mw_iast X (I1 := tb_I Γ t L C (nI m) (upd (upd (upd (upd (upd (upd f (m * 6) a0) (m * 6 + 1) a1) (m * 6 + 2) a2) (m * 6 + 3) a3) (m * 6 + 4) a4) (m * 6 + 5) a5)) (m * 6 + 5) (by simp only [nI_add, pk_mul]) rfl (fun H h => ⟨Or.inr rfl, _, _, h.2, by omega, by omega, fun H1 o c => h.stc o c⟩) ?_
  refine mw_steps X 2 (pc' := 104) (lv' := [(7, .int ((nI m) * (nI 6))), (0, .ref t), (1, .int a0), (2, .int a1), (3, .int a2), (4, .int a3), (5, .int a4), (6, .int a5)]) (st' := [.ref t, .ref t]) rfl ?_
  refine mw_get X kf_X2_31.fl kc_2 rfl (v := .int (nI m)) (fun H h => ⟨_, h.1, rfl⟩) ?_
  refine mw_steps X 2 (pc' := 109) (lv' := [(7, .int ((nI m) * (nI 6))), (0, .ref t), (1, .int a0), (2, .int a1), (3, .int a2), (4, .int a3), (5, .int a4), (6, .int a5)]) (st' := [.int ((nI m) + (nI 1)), .ref t]) rfl ?_
  refine mw_put X kf_X2_31.fl kc_2 ⟨_, _, _, .int, rfl, rfl, by decide, rfl, rfl⟩ rfl (I1 := tb_I Γ t L C ((nI m) + (nI 1)) (upd (upd (upd (upd (upd (upd f (m * 6) a0) (m * 6 + 1) a1) (m * 6 + 2) a2) (m * 6 + 3) a3) (m * 6 + 4) a4) (m * 6 + 5) a5)) (fun H h => ⟨Or.inl rfl, _, h.1, Nat.le_of_ble_eq_true rfl, fun H1 o c => h.stn o c⟩) ?_
  exact mw_vret X rfl rfl (fun H h => ⟨rfl, h⟩)
set_option maxHeartbeats 4000000 in
set_option maxRecDepth 20000 in
theorem ct_empty {l : Launch} {Γ : mw_C} {t L C m : Nat} {f : Nat → Int32} (ht : Γ.2.2.2 ≤ t) {H : Heap}  (hH : tb_I Γ t L C (nI m) f H) (hm : m ≤ L) (hL : L ≤ 24) (hC : C ≤ 6)  : mw_Cr l Γ mX2_empty 1 0 0 (tb_A t) [.ref t] H none (tb_I Γ t L C (nI 0) f) := by
  refine mw_ofG (P := pX2_empty) (by decide) (tb_As ht) oX2_empty (Nat.le_of_ble_eq_true rfl) ?_
  intro pg e0 sg mg below meth cd X hs
  refine mw_pre (I' := tb_I Γ t L C (nI m) f) (fun H1 h1 => by rw [h1]; exact hH) ?_
  refine mw_steps X 2 (pc' := 2) (lv' := [(0, .ref t)]) (st' := [.int (nI 0), .ref t]) rfl ?_
  refine mw_put X kf_X2_31.fl kc_2 ⟨_, _, _, .int, rfl, rfl, by decide, rfl, rfl⟩ rfl (I1 := tb_I Γ t L C (nI 0) f) (fun H h => ⟨Or.inl rfl, _, h.1, Nat.le_of_ble_eq_true rfl, fun H1 o c => h.stn o c⟩) ?_
  exact mw_vret X rfl rfl (fun H h => ⟨rfl, h⟩)
set_option maxHeartbeats 4000000 in
set_option maxRecDepth 20000 in
theorem ct_repeat {l : Launch} {Γ : mw_C} {t L C m : Nat} {f : Nat → Int32} (ht : Γ.2.2.2 ≤ t) {H : Heap} {k : Nat} (hH : tb_I Γ t L C (nI m) f H) (hm : m ≤ L) (hL : L ≤ 24) (hC : C ≤ 6) (hk : k < m) (hk2 : m < L) : mw_Cr l Γ mX2_repeat 1 0 0 (tb_A t) [.ref t, .int (nI k)] H none (tb_I Γ t L C (nI m + nI 1) (va_cpy f f (k * 6) (m * 6) 6)) := by
  refine mw_ofG (P := pX2_repeat) (by decide) (tb_As ht) oX2_repeat (Nat.le_of_ble_eq_true rfl) ?_
  intro pg e0 sg mg below meth cd X hs
  refine mw_pre (I' := tb_I Γ t L C (nI m) f) (fun H1 h1 => by rw [h1]; exact hH) ?_
  refine mw_steps X 1 (pc' := 1) (lv' := [(0, .ref t), (1, .int (nI k))]) (st' := [.int (nI k)]) rfl ?_
  refine mw_if_lt X 57 rfl rfl (fun c1 => absurd c1 (nI_pos (by omega))) (fun c1 => ?_)
  refine mw_steps X 2 (pc' := 6) (lv' := [(0, .ref t), (1, .int (nI k))]) (st' := [.ref t, .int (nI k)]) rfl ?_
  refine mw_get X kf_X2_31.fl kc_2 rfl (v := .int (nI m)) (fun H h => ⟨_, h.1, rfl⟩) ?_
  refine mw_icmp_ge X 57 rfl rfl (fun c9 => absurd c9 (by rw [nI_leI (by omega) (by omega)]; omega)) (fun c9 => ?_)
  refine mw_steps X 1 (pc' := 13) (lv' := [(0, .ref t), (1, .int (nI k))]) (st' := [.ref t]) rfl ?_
  refine mw_get X kf_X2_31.fl kc_2 rfl (v := .int (nI m)) (fun H h => ⟨_, h.1, rfl⟩) ?_
  refine mw_steps X 1 (pc' := 17) (lv' := [(0, .ref t), (1, .int (nI k))]) (st' := [.ref t, .int (nI m)]) rfl ?_
  refine mw_get X kf_X2_15.fl kc_2 rfl (v := .int (nI L)) (fun H h => ⟨_, h.1, rfl⟩) ?_
  refine mw_icmp_ge X 57 rfl rfl (fun c20 => absurd c20 (by rw [nI_leI (by omega) (by omega)]; omega)) (fun c20 => ?_)
  refine mw_steps X 1 (pc' := 24) (lv' := [(0, .ref t), (1, .int (nI k))]) (st' := [.ref t]) rfl ?_
  refine mw_get X kf_X2_27.fl kc_2 rfl (v := .ref (t + 1)) (fun H h => ⟨_, h.1, rfl⟩) ?_
  refine mw_steps X 4 (pc' := 32) (lv' := [(0, .ref t), (1, .int (nI k))]) (st' := [.ref t, .int ((nI k) * (nI 6)), .ref (t + 1)]) rfl ?_
  refine mw_get X kf_X2_27.fl kc_2 rfl (v := .ref (t + 1)) (fun H h => ⟨_, h.1, rfl⟩) ?_
  refine mw_steps X 1 (pc' := 36) (lv' := [(0, .ref t), (1, .int (nI k))]) (st' := [.ref t, .ref (t + 1), .int ((nI k) * (nI 6)), .ref (t + 1)]) rfl ?_
  refine mw_get X kf_X2_31.fl kc_2 rfl (v := .int (nI m)) (fun H h => ⟨_, h.1, rfl⟩) ?_
  refine mw_steps X 3 (pc' := 44) (lv' := [(0, .ref t), (1, .int (nI k))]) (st' := [.int (nI 6), .int ((nI m) * (nI 6)), .ref (t + 1), .int ((nI k) * (nI 6)), .ref (t + 1)]) rfl ?_
  refine mw_copyi X (k * 6) (m * 6) (6) (by simp only [pk_mul]) (by simp only [pk_mul]) rfl kl_X2_34 rfl (Nat.le_of_ble_eq_true rfl) (Nat.le_of_ble_eq_true rfl) (I1 := tb_I Γ t L C (nI m) (va_cpy f f (k * 6) (m * 6) 6)) (fun H h => ⟨Or.inr rfl, _, _, _, _, h.2, h.2, by omega, by omega, by omega, by omega, fun H1 o c => h.stc o c⟩) ?_
  refine mw_steps X 2 (pc' := 49) (lv' := [(0, .ref t), (1, .int (nI k))]) (st' := [.ref t, .ref t]) rfl ?_
  refine mw_get X kf_X2_31.fl kc_2 rfl (v := .int (nI m)) (fun H h => ⟨_, h.1, rfl⟩) ?_
  refine mw_steps X 2 (pc' := 54) (lv' := [(0, .ref t), (1, .int (nI k))]) (st' := [.int ((nI m) + (nI 1)), .ref t]) rfl ?_
  refine mw_put X kf_X2_31.fl kc_2 ⟨_, _, _, .int, rfl, rfl, by decide, rfl, rfl⟩ rfl (I1 := tb_I Γ t L C ((nI m) + (nI 1)) (va_cpy f f (k * 6) (m * 6) 6)) (fun H h => ⟨Or.inl rfl, _, h.1, Nat.le_of_ble_eq_true rfl, fun H1 o c => h.stn o c⟩) ?_
  exact mw_vret X rfl rfl (fun H h => ⟨rfl, h⟩)
set_option maxHeartbeats 4000000 in
set_option maxRecDepth 20000 in
theorem ct_dropM {l : Launch} {Γ : mw_C} {t L C m : Nat} {f : Nat → Int32} (ht : Γ.2.2.2 ≤ t) {H : Heap} {k : Nat} (hH : tb_I Γ t L C (nI m) f H) (hm : m ≤ L) (hL : L ≤ 24) (hC : C ≤ 6) (hk : k + 1 < m) : mw_Cr l Γ mX2_drop 1 0 0 (tb_A t) [.ref t, .int (nI k)] H none (tb_I Γ t L C (nI m - nI 1) (va_cpy f f ((k + 1) * 6) (k * 6) ((m - k - 1) * 6))) := by
  refine mw_ofG (P := pX2_drop) (by decide) (tb_As ht) oX2_drop (Nat.le_of_ble_eq_true rfl) ?_
  intro pg e0 sg mg below meth cd X hs
  refine mw_pre (I' := tb_I Γ t L C (nI m) f) (fun H1 h1 => by rw [h1]; exact hH) ?_
  refine mw_steps X 1 (pc' := 1) (lv' := [(0, .ref t), (1, .int (nI k))]) (st' := [.int (nI k)]) rfl ?_
  refine mw_if_lt X 12 rfl rfl (fun c1 => absurd c1 (nI_pos (by omega))) (fun c1 => ?_)
  refine mw_steps X 2 (pc' := 6) (lv' := [(0, .ref t), (1, .int (nI k))]) (st' := [.ref t, .int (nI k)]) rfl ?_
  refine mw_get X kf_X2_31.fl kc_2 rfl (v := .int (nI m)) (fun H h => ⟨_, h.1, rfl⟩) ?_
  refine mw_icmp_lt X 13 rfl rfl (fun c9 => ?_) (fun c9 => absurd (by rw [nI_ltI (by omega) (by omega)]; omega) c9)
  refine mw_steps X 2 (pc' := 15) (lv' := [(0, .ref t), (1, .int (nI k))]) (st' := [.ref t, .int (nI k)]) rfl ?_
  refine mw_get X kf_X2_31.fl kc_2 rfl (v := .int (nI m)) (fun H h => ⟨_, h.1, rfl⟩) ?_
  refine mw_steps X 2 (pc' := 20) (lv' := [(0, .ref t), (1, .int (nI k))]) (st' := [.int ((nI m) - (nI 1)), .int (nI k)]) rfl ?_
  refine mw_icmp_ge X 55 rfl rfl (fun c20 => absurd c20 (by rw [ml_pred (by omega), nI_leI (by omega) (by omega)]; omega)) (fun c20 => ?_)
  refine mw_steps X 1 (pc' := 24) (lv' := [(0, .ref t), (1, .int (nI k))]) (st' := [.ref t]) rfl ?_
  refine mw_get X kf_X2_27.fl kc_2 rfl (v := .ref (t + 1)) (fun H h => ⟨_, h.1, rfl⟩) ?_
  refine mw_steps X 6 (pc' := 34) (lv' := [(0, .ref t), (1, .int (nI k))]) (st' := [.ref t, .int (((nI k) + (nI 1)) * (nI 6)), .ref (t + 1)]) rfl ?_
  refine mw_get X kf_X2_27.fl kc_2 rfl (v := .ref (t + 1)) (fun H h => ⟨_, h.1, rfl⟩) ?_
  refine mw_steps X 4 (pc' := 42) (lv' := [(0, .ref t), (1, .int (nI k))]) (st' := [.ref t, .int ((nI k) * (nI 6)), .ref (t + 1), .int (((nI k) + (nI 1)) * (nI 6)), .ref (t + 1)]) rfl ?_
  refine mw_get X kf_X2_31.fl kc_2 rfl (v := .int (nI m)) (fun H h => ⟨_, h.1, rfl⟩) ?_
  refine mw_steps X 6 (pc' := 52) (lv' := [(0, .ref t), (1, .int (nI k))]) (st' := [.int ((((nI m) - (nI k)) - (nI 1)) * (nI 6)), .int ((nI k) * (nI 6)), .ref (t + 1), .int (((nI k) + (nI 1)) * (nI 6)), .ref (t + 1)]) rfl ?_
  refine mw_copyi X ((k + 1) * 6) (k * 6) ((m - k - 1) * 6) (by simp only [nI_add, pk_mul]) (by simp only [pk_mul]) (by rw [ml_sub (by omega), ml_sub (by omega), pk_mul]) kl_X2_34 rfl (Nat.le_of_ble_eq_true rfl) (Nat.le_of_ble_eq_true rfl) (I1 := tb_I Γ t L C (nI m) (va_cpy f f ((k + 1) * 6) (k * 6) ((m - k - 1) * 6))) (fun H h => ⟨Or.inr rfl, _, _, _, _, h.2, h.2, by omega, by omega, by omega, by omega, fun H1 o c => h.stc o c⟩) ?_
  refine mw_steps X 2 (pc' := 57) (lv' := [(0, .ref t), (1, .int (nI k))]) (st' := [.ref t, .ref t]) rfl ?_
  refine mw_get X kf_X2_31.fl kc_2 rfl (v := .int (nI m)) (fun H h => ⟨_, h.1, rfl⟩) ?_
  refine mw_steps X 2 (pc' := 62) (lv' := [(0, .ref t), (1, .int (nI k))]) (st' := [.int ((nI m) - (nI 1)), .ref t]) rfl ?_
  refine mw_put X kf_X2_31.fl kc_2 ⟨_, _, _, .int, rfl, rfl, by decide, rfl, rfl⟩ rfl (I1 := tb_I Γ t L C ((nI m) - (nI 1)) (va_cpy f f ((k + 1) * 6) (k * 6) ((m - k - 1) * 6))) (fun H h => ⟨Or.inl rfl, _, h.1, Nat.le_of_ble_eq_true rfl, fun H1 o c => h.stn o c⟩) ?_
  exact mw_vret X rfl rfl (fun H h => ⟨rfl, h⟩)
set_option maxHeartbeats 4000000 in
set_option maxRecDepth 20000 in
theorem ct_dropL {l : Launch} {Γ : mw_C} {t L C m : Nat} {f : Nat → Int32} (ht : Γ.2.2.2 ≤ t) {H : Heap} {k : Nat} (hH : tb_I Γ t L C (nI m) f H) (hm : m ≤ L) (hL : L ≤ 24) (hC : C ≤ 6) (hk : k + 1 = m) : mw_Cr l Γ mX2_drop 1 0 0 (tb_A t) [.ref t, .int (nI k)] H none (tb_I Γ t L C (nI m - nI 1) f) := by
  refine mw_ofG (P := pX2_drop) (by decide) (tb_As ht) oX2_drop (Nat.le_of_ble_eq_true rfl) ?_
  intro pg e0 sg mg below meth cd X hs
  refine mw_pre (I' := tb_I Γ t L C (nI m) f) (fun H1 h1 => by rw [h1]; exact hH) ?_
  refine mw_steps X 1 (pc' := 1) (lv' := [(0, .ref t), (1, .int (nI k))]) (st' := [.int (nI k)]) rfl ?_
  refine mw_if_lt X 12 rfl rfl (fun c1 => absurd c1 (nI_pos (by omega))) (fun c1 => ?_)
  refine mw_steps X 2 (pc' := 6) (lv' := [(0, .ref t), (1, .int (nI k))]) (st' := [.ref t, .int (nI k)]) rfl ?_
  refine mw_get X kf_X2_31.fl kc_2 rfl (v := .int (nI m)) (fun H h => ⟨_, h.1, rfl⟩) ?_
  refine mw_icmp_lt X 13 rfl rfl (fun c9 => ?_) (fun c9 => absurd (by rw [nI_ltI (by omega) (by omega)]; omega) c9)
  refine mw_steps X 2 (pc' := 15) (lv' := [(0, .ref t), (1, .int (nI k))]) (st' := [.ref t, .int (nI k)]) rfl ?_
  refine mw_get X kf_X2_31.fl kc_2 rfl (v := .int (nI m)) (fun H h => ⟨_, h.1, rfl⟩) ?_
  refine mw_steps X 2 (pc' := 20) (lv' := [(0, .ref t), (1, .int (nI k))]) (st' := [.int ((nI m) - (nI 1)), .int (nI k)]) rfl ?_
  refine mw_icmp_ge X 55 rfl rfl (fun c20 => ?_) (fun c20 => absurd (by rw [ml_pred (by omega), nI_leI (by omega) (by omega)]; omega) c20)
  refine mw_steps X 2 (pc' := 57) (lv' := [(0, .ref t), (1, .int (nI k))]) (st' := [.ref t, .ref t]) rfl ?_
  refine mw_get X kf_X2_31.fl kc_2 rfl (v := .int (nI m)) (fun H h => ⟨_, h.1, rfl⟩) ?_
  refine mw_steps X 2 (pc' := 62) (lv' := [(0, .ref t), (1, .int (nI k))]) (st' := [.int ((nI m) - (nI 1)), .ref t]) rfl ?_
  refine mw_put X kf_X2_31.fl kc_2 ⟨_, _, _, .int, rfl, rfl, by decide, rfl, rfl⟩ rfl (I1 := tb_I Γ t L C ((nI m) - (nI 1)) f) (fun H h => ⟨Or.inl rfl, _, h.1, Nat.le_of_ble_eq_true rfl, fun H1 o c => h.stn o c⟩) ?_
  exact mw_vret X rfl rfl (fun H h => ⟨rfl, h⟩)
set_option maxHeartbeats 4000000 in
set_option maxRecDepth 20000 in
theorem ct_dropN {l : Launch} {Γ : mw_C} {t L C m : Nat} {f : Nat → Int32} (ht : Γ.2.2.2 ≤ t) {H : Heap}  (hH : tb_I Γ t L C (nI m) f H) (hm : m ≤ L) (hL : L ≤ 24) (hC : C ≤ 6)  : mw_Cr l Γ mX2_drop 1 0 0 (tb_A t) [.ref t, .int (-1)] H none (tb_I Γ t L C (nI m) f) := by
  refine mw_ofG (P := pX2_drop) (by decide) (tb_As ht) oX2_drop (Nat.le_of_ble_eq_true rfl) ?_
  intro pg e0 sg mg below meth cd X hs
  refine mw_pre (I' := tb_I Γ t L C (nI m) f) (fun H1 h1 => by rw [h1]; exact hH) ?_
  refine mw_steps X 1 (pc' := 1) (lv' := [(0, .ref t), (1, .int (-1))]) (st' := [.int (-1)]) rfl ?_
  refine mw_if_lt X 12 rfl rfl (fun c1 => ?_) (fun c1 => absurd (by decide) c1)
  exact mw_vret X rfl rfl (fun H h => ⟨rfl, h⟩)
set_option maxHeartbeats 4000000 in
set_option maxRecDepth 20000 in
theorem ct_becomes {l : Launch} {Γ : mw_C} {t L C m : Nat} {f : Nat → Int32} (ht : Γ.2.2.2 ≤ t) {H : Heap} {t2 C2 m2 : Nat} {f2 : Nat → Int32} (hH : tb_I Γ t L C (nI m) f H) (hm : m ≤ L) (hL : L ≤ 24) (hC : C ≤ 6) (hH2 : tb_I Γ t2 L C2 (nI m2) f2 H) (hd : t2 + 1 < t ∨ t + 1 < t2) : mw_Cr l Γ mX2_becomes 1 0 0 (tb_A t) [.ref t, .ref t2] H none (fun H => tb_I Γ t L C (nI m2) (va_cpy f2 f 0 0 (6 * L)) H ∧ tb_I Γ t2 L C2 (nI m2) f2 H) := by
  refine mw_ofG (P := pX2_becomes) (by decide) (tb_As ht) oX2_becomes (Nat.le_of_ble_eq_true rfl) ?_
  intro pg e0 sg mg below meth cd X hs
  refine mw_pre (I' := fun H => tb_I Γ t L C (nI m) f H ∧ tb_I Γ t2 L C2 (nI m2) f2 H) (fun H1 h1 => by rw [h1]; exact ⟨hH, hH2⟩) ?_
  refine mw_steps X 1 (pc' := 1) (lv' := [(0, .ref t), (1, .ref t2)]) (st' := [.ref t2]) rfl ?_
  refine mw_get X kf_X2_27.fl kc_2 rfl (v := .ref (t2 + 1)) (fun H h => ⟨_, h.2.1, rfl⟩) ?_
  refine mw_ilen X (6 * L) rfl (fun H h => ⟨_, h.2.2⟩) ?_
  refine mw_steps X 1 (pc' := 6) (lv' := [(0, .ref t), (1, .ref t2)]) (st' := [.ref t, .int (nI (6 * L))]) rfl ?_
  refine mw_get X kf_X2_27.fl kc_2 rfl (v := .ref (t + 1)) (fun H h => ⟨_, h.1.1, rfl⟩) ?_
  refine mw_ilen X (6 * L) rfl (fun H h => ⟨_, h.1.2⟩) ?_
  refine mw_icmp_ne X 39 rfl rfl (fun c10 => absurd rfl c10) (fun c10 => ?_)
  refine mw_steps X 1 (pc' := 14) (lv' := [(0, .ref t), (1, .ref t2)]) (st' := [.ref t2]) rfl ?_
  refine mw_get X kf_X2_27.fl kc_2 rfl (v := .ref (t2 + 1)) (fun H h => ⟨_, h.2.1, rfl⟩) ?_
  refine mw_steps X 2 (pc' := 19) (lv' := [(0, .ref t), (1, .ref t2)]) (st' := [.ref t, .int (nI 0), .ref (t2 + 1)]) rfl ?_
  refine mw_get X kf_X2_27.fl kc_2 rfl (v := .ref (t + 1)) (fun H h => ⟨_, h.1.1, rfl⟩) ?_
  refine mw_steps X 2 (pc' := 24) (lv' := [(0, .ref t), (1, .ref t2)]) (st' := [.ref t, .int (nI 0), .ref (t + 1), .int (nI 0), .ref (t2 + 1)]) rfl ?_
  refine mw_get X kf_X2_27.fl kc_2 rfl (v := .ref (t + 1)) (fun H h => ⟨_, h.1.1, rfl⟩) ?_
  refine mw_ilen X (6 * L) rfl (fun H h => ⟨_, h.1.2⟩) ?_
  refine mw_copyi X 0 0 (6 * L) rfl rfl rfl kl_X2_34 rfl (Nat.le_of_ble_eq_true rfl) (Nat.le_of_ble_eq_true rfl) (I1 := fun H => tb_I Γ t L C (nI m) (va_cpy f2 f 0 0 (6 * L)) H ∧ tb_I Γ t2 L C2 (nI m2) f2 H) (fun H h => ⟨Or.inr rfl, _, _, _, _, h.2.2, h.1.2, by omega, by omega, by omega, by omega, fun H1 o c => ⟨h.1.stc o c, h.2.1.kept (o.2 _ (by omega)), h.2.2.kept (o.2 _ (by omega))⟩⟩) ?_
  refine mw_steps X 2 (pc' := 33) (lv' := [(0, .ref t), (1, .ref t2)]) (st' := [.ref t2, .ref t]) rfl ?_
  refine mw_get X kf_X2_31.fl kc_2 rfl (v := .int (nI m2)) (fun H h => ⟨_, h.2.1, rfl⟩) ?_
  refine mw_put X kf_X2_31.fl kc_2 ⟨_, _, _, .int, rfl, rfl, by decide, rfl, rfl⟩ rfl (I1 := fun H => tb_I Γ t L C (nI m2) (va_cpy f2 f 0 0 (6 * L)) H ∧ tb_I Γ t2 L C2 (nI m2) f2 H) (fun H h => ⟨Or.inl rfl, _, h.1.1, Nat.le_of_ble_eq_true rfl, fun H1 o c => ⟨h.1.stn o c, h.2.1.kept (o.2 _ (by omega)), h.2.2.kept (o.2 _ (by omega))⟩⟩) ?_
  exact mw_vret X rfl rfl (fun H h => ⟨rfl, h⟩)
