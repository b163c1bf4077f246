/-! the set of numbers -/
def nb_I (Γ : mw_C) (t L M : Nat) (f : Nat → Int64) (H : Heap) : Prop := mw_ob Γ t 1 [.int (nI L), .ref (t + 1)] H ∧ mw_la Γ (t + 1) M f H
theorem nb_I.st {Γ : mw_C} {t L M : Nat} {f f' : Nat → Int64} {H H1 : Heap} (h : nb_I Γ t L M f H) (o : mw_one (t + 1) H H1) (c : mw_la Γ (t + 1) M f' H1) : nb_I Γ t L M f' H1 := ⟨h.1.kept (o.2 _ (by omega)), c⟩
def nb_bit (f : Nat → Int64) (k : Nat) : Bool := (f (k / 64)).toBitVec.getLsbD (k % 64)
def nb_has (f : Nat → Int64) (L : Nat) (x : Int32) : Bool := mo_bl x L && nb_bit f (mo_n x)
theorem nb_has_n {f : Nat → Int64} {L k : Nat} (h : k < L) (hL : L ≤ 100000) : nb_has f L (nI k) = nb_bit f k := by
  unfold nb_has
  rw [mo_bl_n h hL, ml_n (by omega), Bool.true_and]
theorem nb_has_o {f : Nat → Int64} {L : Nat} {x : Int32} (h : mo_bl x L = false) : nb_has f L x = false := by unfold nb_has; rw [h]; rfl
theorem nb_bl_neg {x : Int32} {L : Nat} (h : x < 0) : mo_bl x L = false := by unfold mo_bl; rw [decide_eq_false (Int32.not_le.mpr h)]; rfl
theorem nb_bl_ge {x : Int32} {L : Nat} (h : nI L ≤ x) : mo_bl x L = false := by unfold mo_bl; rw [decide_eq_false (Int32.not_lt.mpr h)]; exact Bool.and_false _
def nb_add (f : Nat → Int64) (k : Nat) : Nat → Int64 := vp_updL f (k / 64) (f (k / 64) ||| 1 <<< ((nI (k % 64)).toInt64 &&& 63))
def nb_rem (f : Nat → Int64) (k : Nat) : Nat → Int64 := vp_updL f (k / 64) (f (k / 64) &&& ((1 <<< ((nI (k % 64)).toInt64 &&& 63)) ^^^ (-1)))
theorem nb_bit_add {f : Nat → Int64} {k j : Nat} : nb_bit (nb_add f k) j = (nb_bit f j || decide (j = k)) := by
  unfold nb_bit nb_add vp_updL
  by_cases h : j / 64 = k / 64
  · rw [if_pos h, bu_set _ (Nat.mod_lt _ (by decide)) (Nat.mod_lt _ (by decide)), h]
    congr 1
    exact decide_eq_decide.mpr ⟨fun q => by omega, fun q => by rw [q]⟩
  · rw [if_neg h, decide_eq_false (fun q => h (by rw [q])), Bool.or_false]
theorem nb_bit_rem {f : Nat → Int64} {k j : Nat} : nb_bit (nb_rem f k) j = (nb_bit f j && !decide (j = k)) := by
  unfold nb_bit nb_rem vp_updL
  by_cases h : j / 64 = k / 64
  · rw [if_pos h, bu_clr _ (Nat.mod_lt _ (by decide)) (Nat.mod_lt _ (by decide)), h]
    congr 2
    exact decide_eq_decide.mpr ⟨fun q => by omega, fun q => by rw [q]⟩
  · rw [if_neg h, decide_eq_false (fun q => h (by rw [q]))]; simp
def bsum (f : Nat → Int64) : Nat → Nat
  | 0 => 0
  | n + 1 => bsum f n + bcnt (f n)
set_option maxHeartbeats 4000000 in
set_option maxRecDepth 20000 in
theorem cn_bits {l : Launch} {Γ : mw_C} {H : Heap} {x : Int64} {A : Nat → Prop} (hA : ∀ q, A q → Γ.2.2.2 ≤ q) {J : Heap → Prop} (hJ : J H) : mw_Cr l Γ mJ13_bitCount_95d88 1 0 0 A [.long x] H (some (.int (nI (bcnt x)))) J := by
  refine mw_ofG (P := pJ13_bitCount_95d88) (by decide) hA oJ13_bitCount_95d88 (Nat.le_of_ble_eq_true rfl) ?_
  intro pg e0 sg mg below meth cd X hs
  refine mw_pre (I' := J) (fun H1 h1 => by rw [h1]; exact hJ) ?_
  refine mw_steps X 4 (pc' := 4) (lv' := [(0, .long x)]) (st' := [.long ((x.toUInt64 >>> ((nI 1).toInt64.toUInt64 &&& Int64.toUInt64 63)).toInt64), .long x]) rfl ?_
  refine mw_ldc2 X kk_J13_314 rfl ?_
  refine mw_steps X 3 (pc' := 10) (lv' := [(0, .long (x - (((x.toUInt64 >>> ((nI 1).toInt64.toUInt64 &&& Int64.toUInt64 63)).toInt64) &&& (6148914691236517205))))]) (st' := []) rfl ?_
  obtain ⟨x1, h1⟩ : ∃ z : Int64, z = x - (((x.toUInt64 >>> ((nI 1).toInt64.toUInt64 &&& Int64.toUInt64 63)).toInt64) &&& (6148914691236517205)) := ⟨_, rfl⟩
  refine mw_lveq (lv' := [(0, .long x1)]) (by rw [h1]) ?_
  refine mw_steps X 1 (pc' := 11) (lv' := [(0, .long x1)]) (st' := [.long x1]) rfl ?_
  refine mw_ldc2 X kk_J13_316 rfl ?_
  refine mw_steps X 4 (pc' := 18) (lv' := [(0, .long x1)]) (st' := [.long ((x1.toUInt64 >>> ((nI 2).toInt64.toUInt64 &&& Int64.toUInt64 63)).toInt64), .long (x1 &&& (3689348814741910323))]) rfl ?_
  refine mw_ldc2 X kk_J13_316 rfl ?_
  refine mw_steps X 3 (pc' := 24) (lv' := [(0, .long ((x1 &&& (3689348814741910323)) + (((x1.toUInt64 >>> ((nI 2).toInt64.toUInt64 &&& Int64.toUInt64 63)).toInt64) &&& (3689348814741910323))))]) (st' := []) rfl ?_
  obtain ⟨x2, h2⟩ : ∃ z : Int64, z = (x1 &&& (3689348814741910323)) + (((x1.toUInt64 >>> ((nI 2).toInt64.toUInt64 &&& Int64.toUInt64 63)).toInt64) &&& (3689348814741910323)) := ⟨_, rfl⟩
  refine mw_lveq (lv' := [(0, .long x2)]) (by rw [h2]) ?_
  refine mw_steps X 5 (pc' := 29) (lv' := [(0, .long x2)]) (st' := [.long (x2 + ((x2.toUInt64 >>> ((nI 4).toInt64.toUInt64 &&& Int64.toUInt64 63)).toInt64))]) rfl ?_
  refine mw_ldc2 X kk_J13_318 rfl ?_
  refine mw_steps X 2 (pc' := 34) (lv' := [(0, .long ((x2 + ((x2.toUInt64 >>> ((nI 4).toInt64.toUInt64 &&& Int64.toUInt64 63)).toInt64)) &&& (1085102592571150095)))]) (st' := []) rfl ?_
  obtain ⟨x3, h3⟩ : ∃ z : Int64, z = (x2 + ((x2.toUInt64 >>> ((nI 4).toInt64.toUInt64 &&& Int64.toUInt64 63)).toInt64)) &&& (1085102592571150095) := ⟨_, rfl⟩
  refine mw_lveq (lv' := [(0, .long x3)]) (by rw [h3]) ?_
  refine mw_steps X 6 (pc' := 41) (lv' := [(0, .long (x3 + ((x3.toUInt64 >>> ((nI 8).toInt64.toUInt64 &&& Int64.toUInt64 63)).toInt64)))]) (st' := []) rfl ?_
  obtain ⟨x4, h4⟩ : ∃ z : Int64, z = x3 + ((x3.toUInt64 >>> ((nI 8).toInt64.toUInt64 &&& Int64.toUInt64 63)).toInt64) := ⟨_, rfl⟩
  refine mw_lveq (lv' := [(0, .long x4)]) (by rw [h4]) ?_
  refine mw_steps X 6 (pc' := 48) (lv' := [(0, .long (x4 + ((x4.toUInt64 >>> ((nI 16).toInt64.toUInt64 &&& Int64.toUInt64 63)).toInt64)))]) (st' := []) rfl ?_
  obtain ⟨x5, h5⟩ : ∃ z : Int64, z = x4 + ((x4.toUInt64 >>> ((nI 16).toInt64.toUInt64 &&& Int64.toUInt64 63)).toInt64) := ⟨_, rfl⟩
  refine mw_lveq (lv' := [(0, .long x5)]) (by rw [h5]) ?_
  refine mw_steps X 6 (pc' := 55) (lv' := [(0, .long (x5 + ((x5.toUInt64 >>> ((nI 32).toInt64.toUInt64 &&& Int64.toUInt64 63)).toInt64)))]) (st' := []) rfl ?_
  obtain ⟨x6, h6⟩ : ∃ z : Int64, z = x5 + ((x5.toUInt64 >>> ((nI 32).toInt64.toUInt64 &&& Int64.toUInt64 63)).toInt64) := ⟨_, rfl⟩
  refine mw_lveq (lv' := [(0, .long x6)]) (by rw [h6]) ?_
  refine mw_steps X 4 (pc' := 60) (lv' := [(0, .long x6)]) (st' := [.int (x6.toInt32 &&& (nI 127))]) rfl ?_
  exact mw_iret X rfl rfl (fun H h => ⟨congrArg (fun z => some (Value.int z)) (bu_cnt h1 h2 h3 h4 h5 h6), h⟩)
set_option maxHeartbeats 4000000 in
set_option maxRecDepth 20000 in
theorem cn_has {l : Launch} {Γ : mw_C} {t L M : Nat} {f : Nat → Int64} (ht : Γ.2.2.2 ≤ t) {H : Heap} {x : Int32} (hH : nb_I Γ t L M f H) (hL : L ≤ 64 * M) (hM : M ≤ 512)  : mw_Cr l Γ mX1_has 1 0 0 (tb_A t) [.ref t, .int x] H (some (.int (mo_b (nb_has f L x)))) (nb_I Γ t L M f) := by
  refine mw_ofG (P := pX1_has) (by decide) (tb_As ht) oX1_has (Nat.le_of_ble_eq_true rfl) ?_
  intro pg e0 sg mg below meth cd X hs
  refine mw_pre (I' := nb_I Γ t L M f) (fun H1 h1 => by rw [h1]; exact hH) ?_
  refine mw_steps X 5 (pc' := 6) (lv' := [(2, .int (x >>> ((nI 6) &&& 31))), (0, .ref t), (1, .int x)]) (st' := [.int x]) rfl ?_
  refine mw_if_lt X 48 rfl rfl (fun c6 => ?_) (fun c6 => ?_)
  · refine mw_steps X 1 (pc' := 49) (lv' := [(2, .int (x >>> ((nI 6) &&& 31))), (0, .ref t), (1, .int x)]) (st' := [.int (nI 0)]) rfl ?_
    exact mw_zret X rfl (by decide) rfl (fun H h => ⟨by first | rw [nb_has_o (nb_bl_neg c6)]; rfl | rw [nb_has_o (nb_bl_ge c14)]; rfl | rw [nb_has_n hk (by omega), show nb_bit f k = false from Bool.eq_false_iff.mpr (fun q => c41 ((lg_cmp_eq _ _).mpr ((bu_get _ (Nat.mod_lt _ (by decide))).mpr q)))]; rfl, h⟩)
  · refine mw_steps X 2 (pc' := 11) (lv' := [(2, .int (x >>> ((nI 6) &&& 31))), (0, .ref t), (1, .int x)]) (st' := [.ref t, .int x]) rfl ?_
    refine mw_get X kf_X1_15.fl kc_1 rfl (v := .int (nI L)) (fun H h => ⟨_, h.1, rfl⟩) ?_
    refine mw_icmp_ge X 48 rfl rfl (fun c14 => ?_) (fun c14 => ?_)
    · refine mw_steps X 1 (pc' := 49) (lv' := [(2, .int (x >>> ((nI 6) &&& 31))), (0, .ref t), (1, .int x)]) (st' := [.int (nI 0)]) rfl ?_
      exact mw_zret X rfl (by decide) rfl (fun H h => ⟨by first | rw [nb_has_o (nb_bl_neg c6)]; rfl | rw [nb_has_o (nb_bl_ge c14)]; rfl | rw [nb_has_n hk (by omega), show nb_bit f k = false from Bool.eq_false_iff.mpr (fun q => c41 ((lg_cmp_eq _ _).mpr ((bu_get _ (Nat.mod_lt _ (by decide))).mpr q)))]; rfl, h⟩)
    · obtain ⟨k, hk, rfl⟩ := ml_of_range (Int32.not_lt.mp c6) (Int32.not_le.mp c14) (by omega)
      refine mw_lveq (lv' := [(2, .int (nI (k / 64))), (0, .ref t), (1, .int (nI k))]) (by rw [pk_shrN (by omega) _ 6 (by decide)]) ?_
      refine mw_steps X 2 (pc' := 19) (lv' := [(2, .int (nI (k / 64))), (0, .ref t), (1, .int (nI k))]) (st' := [.ref t, .int (nI (k / 64))]) rfl ?_
      refine mw_get X kf_X1_21.fl kc_1 rfl (v := .ref (t + 1)) (fun H h => ⟨_, h.1, rfl⟩) ?_
      refine mw_llen X M rfl (fun H h => ⟨_, h.2⟩) ?_
      refine mw_icmp_ge X 48 rfl rfl (fun c23 => absurd c23 (by rw [nI_leI (by omega) (by omega)]; omega)) (fun c23 => ?_)
      refine mw_steps X 1 (pc' := 27) (lv' := [(2, .int (nI (k / 64))), (0, .ref t), (1, .int (nI k))]) (st' := [.ref t]) rfl ?_
      refine mw_get X kf_X1_21.fl kc_1 rfl (v := .ref (t + 1)) (fun H h => ⟨_, h.1, rfl⟩) ?_
      refine mw_steps X 1 (pc' := 31) (lv' := [(2, .int (nI (k / 64))), (0, .ref t), (1, .int (nI k))]) (st' := [.int (nI (k / 64)), .ref (t + 1)]) rfl ?_
      refine mw_lald X (v := f (k / 64)) (k / 64) rfl rfl (fun H h => ⟨_, _, h.2, by omega, by omega, rfl⟩) ?_
      refine mw_steps X 3 (pc' := 36) (lv' := [(2, .int (nI (k / 64))), (0, .ref t), (1, .int (nI k))]) (st' := [.int ((nI k) &&& (nI 63)), .long (f (k / 64))]) rfl ?_
      refine mw_top (y := nI (k % 64)) (pk_andN (by omega) 6 (by decide)) ?_
      refine mw_steps X 5 (pc' := 41) (lv' := [(2, .int (nI (k / 64))), (0, .ref t), (1, .int (nI k))]) (st' := [.int (lg_cmp ((((f (k / 64)).toUInt64 >>> ((nI (k % 64)).toInt64.toUInt64 &&& Int64.toUInt64 63)).toInt64) &&& 1) 1)]) rfl ?_
      refine mw_if_ne X 48 rfl rfl (fun c41 => ?_) (fun c41 => ?_)
      · refine mw_steps X 1 (pc' := 49) (lv' := [(2, .int (nI (k / 64))), (0, .ref t), (1, .int (nI k))]) (st' := [.int (nI 0)]) rfl ?_
        exact mw_zret X rfl (by decide) rfl (fun H h => ⟨by first | rw [nb_has_o (nb_bl_neg c6)]; rfl | rw [nb_has_o (nb_bl_ge c14)]; rfl | rw [nb_has_n hk (by omega), show nb_bit f k = false from Bool.eq_false_iff.mpr (fun q => c41 ((lg_cmp_eq _ _).mpr ((bu_get _ (Nat.mod_lt _ (by decide))).mpr q)))]; rfl, h⟩)
      · refine mw_steps X 2 (pc' := 49) (lv' := [(2, .int (nI (k / 64))), (0, .ref t), (1, .int (nI k))]) (st' := [.int (nI 1)]) rfl ?_
        exact mw_zret X rfl (by decide) rfl (fun H h => ⟨by rw [nb_has_n hk (by omega), show nb_bit f k = true from (bu_get _ (Nat.mod_lt _ (by decide))).mp ((lg_cmp_eq _ _).mp c41)]; rfl, h⟩)
set_option maxHeartbeats 4000000 in
set_option maxRecDepth 20000 in
theorem cn_add {l : Launch} {Γ : mw_C} {t L M : Nat} {f : Nat → Int64} (ht : Γ.2.2.2 ≤ t) {H : Heap} {x : Int32} (hH : nb_I Γ t L M f H) (hL : L ≤ 64 * M) (hM : M ≤ 512)  : mw_Cr l Γ mX1_add 1 0 0 (tb_A t) [.ref t, .int x] H none (nb_I Γ t L M (if mo_bl x L = true then nb_add f (mo_n x) else f)) := by
  refine mw_ofG (P := pX1_add) (by decide) (tb_As ht) oX1_add (Nat.le_of_ble_eq_true rfl) ?_
  intro pg e0 sg mg below meth cd X hs
  refine mw_pre (I' := nb_I Γ t L M f) (fun H1 h1 => by rw [h1]; exact hH) ?_
  refine mw_steps X 5 (pc' := 6) (lv' := [(2, .int (x >>> ((nI 6) &&& 31))), (0, .ref t), (1, .int x)]) (st' := [.int x]) rfl ?_
  refine mw_if_lt X 41 rfl rfl (fun c6 => ?_) (fun c6 => ?_)
  · exact mw_vret X rfl rfl (fun H h => ⟨rfl, by first | rw [nb_bl_neg c6]; exact h | rw [nb_bl_ge c14]; exact h⟩)
  · refine mw_steps X 2 (pc' := 11) (lv' := [(2, .int (x >>> ((nI 6) &&& 31))), (0, .ref t), (1, .int x)]) (st' := [.ref t, .int x]) rfl ?_
    refine mw_get X kf_X1_15.fl kc_1 rfl (v := .int (nI L)) (fun H h => ⟨_, h.1, rfl⟩) ?_
    refine mw_icmp_ge X 41 rfl rfl (fun c14 => ?_) (fun c14 => ?_)
    · exact mw_vret X rfl rfl (fun H h => ⟨rfl, by first | rw [nb_bl_neg c6]; exact h | rw [nb_bl_ge c14]; exact h⟩)
    · obtain ⟨k, hk, rfl⟩ := ml_of_range (Int32.not_lt.mp c6) (Int32.not_le.mp c14) (by omega)
      refine mw_lveq (lv' := [(2, .int (nI (k / 64))), (0, .ref t), (1, .int (nI k))]) (by rw [pk_shrN (by omega) _ 6 (by decide)]) ?_
      refine mw_steps X 2 (pc' := 19) (lv' := [(2, .int (nI (k / 64))), (0, .ref t), (1, .int (nI k))]) (st' := [.ref t, .int (nI (k / 64))]) rfl ?_
      refine mw_get X kf_X1_21.fl kc_1 rfl (v := .ref (t + 1)) (fun H h => ⟨_, h.1, rfl⟩) ?_
      refine mw_llen X M rfl (fun H h => ⟨_, h.2⟩) ?_
      refine mw_icmp_ge X 41 rfl rfl (fun c23 => absurd c23 (by rw [nI_leI (by omega) (by omega)]; omega)) (fun c23 => ?_)
      refine mw_steps X 1 (pc' := 27) (lv' := [(2, .int (nI (k / 64))), (0, .ref t), (1, .int (nI k))]) (st' := [.ref t]) rfl ?_
      refine mw_get X kf_X1_21.fl kc_1 rfl (v := .ref (t + 1)) (fun H h => ⟨_, h.1, rfl⟩) ?_
      refine mw_steps X 2 (pc' := 32) (lv' := [(2, .int (nI (k / 64))), (0, .ref t), (1, .int (nI k))]) (st' := [.int (nI (k / 64)), .ref (t + 1), .int (nI (k / 64)), .ref (t + 1)]) rfl ?_
      refine mw_lald X (v := f (k / 64)) (k / 64) rfl rfl (fun H h => ⟨_, _, h.2, by omega, by omega, rfl⟩) ?_
      refine mw_steps X 4 (pc' := 38) (lv' := [(2, .int (nI (k / 64))), (0, .ref t), (1, .int (nI k))]) (st' := [.int ((nI k) &&& (nI 63)), .long 1, .long (f (k / 64)), .int (nI (k / 64)), .ref (t + 1)]) rfl ?_
      refine mw_top (y := nI (k % 64)) (pk_andN (by omega) 6 (by decide)) ?_
      refine mw_steps X 2 (pc' := 40) (lv' := [(2, .int (nI (k / 64))), (0, .ref t), (1, .int (nI k))]) (st' := [.long ((f (k / 64)) ||| (1 <<< ((nI (k % 64)).toInt64 &&& 63))), .int (nI (k / 64)), .ref (t + 1)]) rfl ?_
      refine mw_last X (I1 := nb_I Γ t L M (vp_updL f (k / 64) ((f (k / 64)) ||| (1 <<< ((nI (k % 64)).toInt64 &&& 63))))) (k / 64) rfl rfl (fun H h => ⟨Or.inr rfl, _, _, h.2, by omega, by omega, fun H1 o c => h.st o c⟩) ?_
      exact mw_vret X rfl rfl (fun H h => ⟨rfl, by rw [mo_bl_n hk (by omega), if_pos rfl, ml_n (by omega)]; exact h⟩)
set_option maxHeartbeats 4000000 in
set_option maxRecDepth 20000 in
theorem cn_rem {l : Launch} {Γ : mw_C} {t L M : Nat} {f : Nat → Int64} (ht : Γ.2.2.2 ≤ t) {H : Heap} {x : Int32} (hH : nb_I Γ t L M f H) (hL : L ≤ 64 * M) (hM : M ≤ 512)  : mw_Cr l Γ mX1_remove 1 0 0 (tb_A t) [.ref t, .int x] H none (nb_I Γ t L M (if mo_bl x L = true then nb_rem f (mo_n x) else f)) := by
  refine mw_ofG (P := pX1_remove) (by decide) (tb_As ht) oX1_remove (Nat.le_of_ble_eq_true rfl) ?_
  intro pg e0 sg mg below meth cd X hs
  refine mw_pre (I' := nb_I Γ t L M f) (fun H1 h1 => by rw [h1]; exact hH) ?_
  refine mw_steps X 5 (pc' := 6) (lv' := [(2, .int (x >>> ((nI 6) &&& 31))), (0, .ref t), (1, .int x)]) (st' := [.int x]) rfl ?_
  refine mw_if_lt X 45 rfl rfl (fun c6 => ?_) (fun c6 => ?_)
  · exact mw_vret X rfl rfl (fun H h => ⟨rfl, by first | rw [nb_bl_neg c6]; exact h | rw [nb_bl_ge c14]; exact h⟩)
  · refine mw_steps X 2 (pc' := 11) (lv' := [(2, .int (x >>> ((nI 6) &&& 31))), (0, .ref t), (1, .int x)]) (st' := [.ref t, .int x]) rfl ?_
    refine mw_get X kf_X1_15.fl kc_1 rfl (v := .int (nI L)) (fun H h => ⟨_, h.1, rfl⟩) ?_
    refine mw_icmp_ge X 45 rfl rfl (fun c14 => ?_) (fun c14 => ?_)
    · exact mw_vret X rfl rfl (fun H h => ⟨rfl, by first | rw [nb_bl_neg c6]; exact h | rw [nb_bl_ge c14]; exact h⟩)
    · obtain ⟨k, hk, rfl⟩ := ml_of_range (Int32.not_lt.mp c6) (Int32.not_le.mp c14) (by omega)
      refine mw_lveq (lv' := [(2, .int (nI (k / 64))), (0, .ref t), (1, .int (nI k))]) (by rw [pk_shrN (by omega) _ 6 (by decide)]) ?_
      refine mw_steps X 2 (pc' := 19) (lv' := [(2, .int (nI (k / 64))), (0, .ref t), (1, .int (nI k))]) (st' := [.ref t, .int (nI (k / 64))]) rfl ?_
      refine mw_get X kf_X1_21.fl kc_1 rfl (v := .ref (t + 1)) (fun H h => ⟨_, h.1, rfl⟩) ?_
      refine mw_llen X M rfl (fun H h => ⟨_, h.2⟩) ?_
      refine mw_icmp_ge X 45 rfl rfl (fun c23 => absurd c23 (by rw [nI_leI (by omega) (by omega)]; omega)) (fun c23 => ?_)
      refine mw_steps X 1 (pc' := 27) (lv' := [(2, .int (nI (k / 64))), (0, .ref t), (1, .int (nI k))]) (st' := [.ref t]) rfl ?_
      refine mw_get X kf_X1_21.fl kc_1 rfl (v := .ref (t + 1)) (fun H h => ⟨_, h.1, rfl⟩) ?_
      refine mw_steps X 2 (pc' := 32) (lv' := [(2, .int (nI (k / 64))), (0, .ref t), (1, .int (nI k))]) (st' := [.int (nI (k / 64)), .ref (t + 1), .int (nI (k / 64)), .ref (t + 1)]) rfl ?_
      refine mw_lald X (v := f (k / 64)) (k / 64) rfl rfl (fun H h => ⟨_, _, h.2, by omega, by omega, rfl⟩) ?_
      refine mw_steps X 4 (pc' := 38) (lv' := [(2, .int (nI (k / 64))), (0, .ref t), (1, .int (nI k))]) (st' := [.int ((nI k) &&& (nI 63)), .long 1, .long (f (k / 64)), .int (nI (k / 64)), .ref (t + 1)]) rfl ?_
      refine mw_top (y := nI (k % 64)) (pk_andN (by omega) 6 (by decide)) ?_
      refine mw_steps X 1 (pc' := 39) (lv' := [(2, .int (nI (k / 64))), (0, .ref t), (1, .int (nI k))]) (st' := [.long (1 <<< ((nI (k % 64)).toInt64 &&& 63)), .long (f (k / 64)), .int (nI (k / 64)), .ref (t + 1)]) rfl ?_
      refine mw_ldc2 X kk_X1_25 rfl ?_
      refine mw_steps X 2 (pc' := 44) (lv' := [(2, .int (nI (k / 64))), (0, .ref t), (1, .int (nI k))]) (st' := [.long ((f (k / 64)) &&& ((1 <<< ((nI (k % 64)).toInt64 &&& 63)) ^^^ (-1))), .int (nI (k / 64)), .ref (t + 1)]) rfl ?_
      refine mw_last X (I1 := nb_I Γ t L M (vp_updL f (k / 64) ((f (k / 64)) &&& ((1 <<< ((nI (k % 64)).toInt64 &&& 63)) ^^^ (-1))))) (k / 64) rfl rfl (fun H h => ⟨Or.inr rfl, _, _, h.2, by omega, by omega, fun H1 o c => h.st o c⟩) ?_
      exact mw_vret X rfl rfl (fun H h => ⟨rfl, by rw [mo_bl_n hk (by omega), if_pos rfl, ml_n (by omega)]; exact h⟩)
set_option maxHeartbeats 4000000 in
set_option maxRecDepth 20000 in
theorem cn_size {l : Launch} {Γ : mw_C} {t L M : Nat} {f : Nat → Int64} (ht : Γ.2.2.2 ≤ t) {H : Heap}  (hH : nb_I Γ t L M f H) (hL : L ≤ 64 * M) (hM : M ≤ 512)  : mw_Cr l Γ mX1_size 2 0 0 (tb_A t) [.ref t] H (some (.int (nI (bsum f M)))) (nb_I Γ t L M f) := by
  refine mw_ofG (P := pX1_size) (by decide) (tb_As ht) oX1_size (Nat.le_of_ble_eq_true rfl) ?_
  intro pg e0 sg mg below meth cd X hs
  refine mw_pre (I' := nb_I Γ t L M f) (fun H1 h1 => by rw [h1]; exact hH) ?_
  refine mw_steps X 4 (pc' := 4) (lv' := [(2, .int (nI 0)), (1, .int (nI 0)), (0, .ref t)]) (st' := []) rfl ?_
  refine mw_wf (fun i => M - i) (fun i => i ≤ M) (fun _ => nb_I Γ t L M f) (fun i => [(2, .int (nI i)), (1, .int (nI (bsum f i))), (0, .ref t)]) (fun i hi ih => ?_) 0 (Nat.zero_le _)
  refine mw_steps X 2 (pc' := 6) (lv' := [(2, .int (nI i)), (1, .int (nI (bsum f i))), (0, .ref t)]) (st' := [.ref t, .int (nI i)]) rfl ?_
  refine mw_get X kf_X1_21.fl kc_1 rfl (v := .ref (t + 1)) (fun H h => ⟨_, h.1, rfl⟩) ?_
  refine mw_llen X M rfl (fun H h => ⟨_, h.2⟩) ?_
  refine mw_icmp_ge X 31 rfl rfl (fun c10 => ?_) (fun c10 => ?_)
  · have hn : i = M := by rw [nI_leI (by omega) (by omega)] at c10; omega
    refine mw_steps X 1 (pc' := 32) (lv' := [(2, .int (nI i)), (1, .int (nI (bsum f i))), (0, .ref t)]) (st' := [.int (nI (bsum f i))]) rfl ?_
    exact mw_iret X rfl rfl (fun H h => ⟨by rw [hn], h⟩)
  · have hn : i < M := by rw [nI_leI (by omega) (by omega)] at c10; omega
    refine mw_steps X 2 (pc' := 15) (lv' := [(2, .int (nI i)), (1, .int (nI (bsum f i))), (0, .ref t)]) (st' := [.ref t, .int (nI (bsum f i))]) rfl ?_
    refine mw_get X kf_X1_21.fl kc_1 rfl (v := .ref (t + 1)) (fun H h => ⟨_, h.1, rfl⟩) ?_
    refine mw_steps X 1 (pc' := 19) (lv' := [(2, .int (nI i)), (1, .int (nI (bsum f i))), (0, .ref t)]) (st' := [.int (nI i), .ref (t + 1), .int (nI (bsum f i))]) rfl ?_
    refine mw_lald X (v := f (i)) (i) rfl rfl (fun H h => ⟨_, _, h.2, by omega, by omega, rfl⟩) ?_
    refine mw_cS1r X kd_J13_bitCount_95d88 ks_J13_bitCount_95d88 kl_X1_27 rfl (Nat.le_of_ble_eq_true rfl) ⟨Nat.le_of_ble_eq_true rfl, Nat.le_of_ble_eq_true rfl⟩ ⟨Nat.le_of_ble_eq_true rfl, Nat.le_of_ble_eq_true rfl⟩ (fun _ h => h) (fun H h => cn_bits (tb_As ht) h) ?_
    refine mw_steps X 4 (pc' := 4) (lv' := [(2, .int ((nI i) + (nI 1))), (1, .int ((nI (bsum f i)) + (nI (bcnt (f i))))), (0, .ref t)]) (st' := []) rfl ?_
    refine mw_lveq (lv' := [(2, .int (nI (i + 1))), (1, .int (nI (bsum f (i + 1)))), (0, .ref t)]) (by simp only [nI_add, bsum]) ?_
    exact ih (i + 1) (by omega) (by omega)
set_option maxHeartbeats 4000000 in
set_option maxRecDepth 20000 in
theorem cn_least {l : Launch} {Γ : mw_C} {t L M : Nat} {f : Nat → Int64} (ht : Γ.2.2.2 ≤ t) {H : Heap}  (hH : nb_I Γ t L M f H) (hL : L ≤ 64 * M) (hM : M ≤ 512)  : mw_Cr l Γ mX1_least 2 0 0 (tb_A t) [.ref t] H (some (.int (mo_ix (mo_fst (fun k => nb_bit f k) L) L))) (nb_I Γ t L M f) := by
  refine mw_ofG (P := pX1_least) (by decide) (tb_As ht) oX1_least (Nat.le_of_ble_eq_true rfl) ?_
  intro pg e0 sg mg below meth cd X hs
  refine mw_pre (I' := nb_I Γ t L M f) (fun H1 h1 => by rw [h1]; exact hH) ?_
  refine mw_steps X 2 (pc' := 2) (lv' := [(1, .int (nI 0)), (0, .ref t)]) (st' := []) rfl ?_
  refine mw_wf (fun k => L - k) (fun k => k ≤ L ∧ ∀ j, j < k → (fun k => nb_bit f k) j = false) (fun _ => nb_I Γ t L M f) (fun k => [(1, .int (nI k)), (0, .ref t)]) (fun k hk ih => ?_) 0 ⟨Nat.zero_le _, fun j hj => absurd hj (Nat.not_lt_zero j)⟩
  obtain ⟨hk, hno⟩ := hk
  refine mw_steps X 2 (pc' := 4) (lv' := [(1, .int (nI k)), (0, .ref t)]) (st' := [.ref t, .int (nI k)]) rfl ?_
  refine mw_get X kf_X1_15.fl kc_1 rfl (v := .int (nI L)) (fun H h => ⟨_, h.1, rfl⟩) ?_
  refine mw_icmp_ge X 26 rfl rfl (fun c7 => ?_) (fun c7 => ?_)
  · have hn : k = L := by rw [nI_leI (by omega) (by omega)] at c7; omega
    refine mw_steps X 1 (pc' := 27) (lv' := [(1, .int (nI k)), (0, .ref t)]) (st' := [.int (-1)]) rfl ?_
    exact mw_iret X rfl rfl (fun H h => ⟨by subst hn; rw [ml_fst_none hno]; unfold mo_ix; rw [if_neg (Nat.lt_irrefl _)], h⟩)
  · have hn : k < L := by rw [nI_leI (by omega) (by omega)] at c7; omega
    refine mw_steps X 2 (pc' := 12) (lv' := [(1, .int (nI k)), (0, .ref t)]) (st' := [.int (nI k), .ref t]) rfl ?_
    refine mw_cV1r X kd_X1_has kv_X1_has kl_X1_33 (ci := 1) rfl rfl (Nat.le_of_ble_eq_true rfl) ⟨Nat.le_of_ble_eq_true rfl, Nat.le_of_ble_eq_true rfl⟩ ⟨Nat.le_of_ble_eq_true rfl, Nat.le_of_ble_eq_true rfl⟩ (fun _ h => h) (fun H h => ⟨⟨_, h.1⟩, cn_has ht h hL hM⟩) ?_
    refine mw_if_eq X 20 rfl rfl (fun c15 => ?_) (fun c15 => ?_)
    · refine mw_steps X 2 (pc' := 2) (lv' := [(1, .int ((nI k) + (nI 1))), (0, .ref t)]) (st' := []) rfl ?_
      refine mw_lveq (lv' := [(1, .int (nI (k + 1))), (0, .ref t)]) (by simp only [nI_add]) ?_
      exact ih (k + 1) ⟨by omega, ml_succ (Q := fun j => (fun k => nb_bit f k) j = false) hno (by rw [nb_has_n hn (by omega)] at c15; exact mo_b_z c15)⟩ (by omega)
    · refine mw_steps X 1 (pc' := 19) (lv' := [(1, .int (nI k)), (0, .ref t)]) (st' := [.int (nI k)]) rfl ?_
      exact mw_iret X rfl rfl (fun H h => ⟨by rw [nb_has_n hn (by omega)] at c15; rw [ml_fst_is hn (mo_b_nz c15) hno]; unfold mo_ix; rw [if_pos hn], h⟩)
set_option maxHeartbeats 4000000 in
set_option maxRecDepth 20000 in
theorem cn_inRow {l : Launch} {Γ : mw_C} {t L M : Nat} {f : Nat → Int64} (ht : Γ.2.2.2 ≤ t) {H : Heap}  (hH : nb_I Γ t L M f H) (hL : L ≤ 64 * M) (hM : M ≤ 512)  : mw_Cr l Γ mX1_inRow 2 0 0 (tb_A t) [.ref t] H (some (.int (nI (mo_fst (fun k => !nb_bit f k) L)))) (nb_I Γ t L M f) := by
  refine mw_ofG (P := pX1_inRow) (by decide) (tb_As ht) oX1_inRow (Nat.le_of_ble_eq_true rfl) ?_
  intro pg e0 sg mg below meth cd X hs
  refine mw_pre (I' := nb_I Γ t L M f) (fun H1 h1 => by rw [h1]; exact hH) ?_
  refine mw_steps X 2 (pc' := 2) (lv' := [(1, .int (nI 0)), (0, .ref t)]) (st' := []) rfl ?_
  refine mw_wf (fun k => L - k) (fun k => k ≤ L ∧ ∀ j, j < k → (fun k => !nb_bit f k) j = false) (fun _ => nb_I Γ t L M f) (fun k => [(1, .int (nI k)), (0, .ref t)]) (fun k hk ih => ?_) 0 ⟨Nat.zero_le _, fun j hj => absurd hj (Nat.not_lt_zero j)⟩
  obtain ⟨hk, hno⟩ := hk
  refine mw_steps X 2 (pc' := 4) (lv' := [(1, .int (nI k)), (0, .ref t)]) (st' := [.ref t, .int (nI k)]) rfl ?_
  refine mw_get X kf_X1_15.fl kc_1 rfl (v := .int (nI L)) (fun H h => ⟨_, h.1, rfl⟩) ?_
  refine mw_icmp_ge X 24 rfl rfl (fun c7 => ?_) (fun c7 => ?_)
  · have hn : k = L := by rw [nI_leI (by omega) (by omega)] at c7; omega
    refine mw_steps X 1 (pc' := 25) (lv' := [(1, .int (nI k)), (0, .ref t)]) (st' := [.int (nI k)]) rfl ?_
    exact mw_iret X rfl rfl (fun H h => ⟨by first | (subst hn; rw [ml_fst_none hno]) | (rw [nb_has_n hn (by omega)] at c15; rw [ml_fst_is hn (by show (!nb_bit f k) = true; rw [mo_b_z c15]; rfl) hno]), h⟩)
  · have hn : k < L := by rw [nI_leI (by omega) (by omega)] at c7; omega
    refine mw_steps X 2 (pc' := 12) (lv' := [(1, .int (nI k)), (0, .ref t)]) (st' := [.int (nI k), .ref t]) rfl ?_
    refine mw_cV1r X kd_X1_has kv_X1_has kl_X1_33 (ci := 1) rfl rfl (Nat.le_of_ble_eq_true rfl) ⟨Nat.le_of_ble_eq_true rfl, Nat.le_of_ble_eq_true rfl⟩ ⟨Nat.le_of_ble_eq_true rfl, Nat.le_of_ble_eq_true rfl⟩ (fun _ h => h) (fun H h => ⟨⟨_, h.1⟩, cn_has ht h hL hM⟩) ?_
    refine mw_if_eq X 24 rfl rfl (fun c15 => ?_) (fun c15 => ?_)
    · refine mw_steps X 1 (pc' := 25) (lv' := [(1, .int (nI k)), (0, .ref t)]) (st' := [.int (nI k)]) rfl ?_
      exact mw_iret X rfl rfl (fun H h => ⟨by first | (subst hn; rw [ml_fst_none hno]) | (rw [nb_has_n hn (by omega)] at c15; rw [ml_fst_is hn (by show (!nb_bit f k) = true; rw [mo_b_z c15]; rfl) hno]), h⟩)
    · refine mw_steps X 2 (pc' := 2) (lv' := [(1, .int ((nI k) + (nI 1))), (0, .ref t)]) (st' := []) rfl ?_
      refine mw_lveq (lv' := [(1, .int (nI (k + 1))), (0, .ref t)]) (by simp only [nI_add]) ?_
      exact ih (k + 1) ⟨by omega, ml_succ (Q := fun j => (fun k => !nb_bit f k) j = false) hno (by rw [nb_has_n hn (by omega)] at c15; show (!nb_bit f k) = false; rw [mo_b_nz c15]; rfl)⟩ (by omega)
set_option maxHeartbeats 4000000 in
set_option maxRecDepth 20000 in
theorem cn_becomes {l : Launch} {Γ : mw_C} {t L M : Nat} {f : Nat → Int64} (ht : Γ.2.2.2 ≤ t) {H : Heap} {t2 L2 : Nat} {f2 : Nat → Int64} (hH : nb_I Γ t L M f H) (hL : L ≤ 64 * M) (hM : M ≤ 512) (hH2 : nb_I Γ t2 L2 M f2 H) (hd : t2 + 1 < t ∨ t + 1 < t2) : mw_Cr l Γ mX1_becomes 1 0 0 (tb_A t) [.ref t, .ref t2] H none (fun H => nb_I Γ t L M (va_cpy f2 f 0 0 M) H ∧ nb_I Γ t2 L2 M f2 H) := by
  refine mw_ofG (P := pX1_becomes) (by decide) (tb_As ht) oX1_becomes (Nat.le_of_ble_eq_true rfl) ?_
  intro pg e0 sg mg below meth cd X hs
  refine mw_pre (I' := fun H => nb_I Γ t L M f H ∧ nb_I Γ t2 L2 M f2 H) (fun H1 h1 => by rw [h1]; exact ⟨hH, hH2⟩) ?_
  refine mw_steps X 1 (pc' := 1) (lv' := [(0, .ref t), (1, .ref t2)]) (st' := [.ref t2]) rfl ?_
  refine mw_get X kf_X1_21.fl kc_1 rfl (v := .ref (t2 + 1)) (fun H h => ⟨_, h.2.1, rfl⟩) ?_
  refine mw_llen X M rfl (fun H h => ⟨_, h.2.2⟩) ?_
  refine mw_steps X 1 (pc' := 6) (lv' := [(0, .ref t), (1, .ref t2)]) (st' := [.ref t, .int (nI M)]) rfl ?_
  refine mw_get X kf_X1_21.fl kc_1 rfl (v := .ref (t + 1)) (fun H h => ⟨_, h.1.1, rfl⟩) ?_
  refine mw_llen X M rfl (fun H h => ⟨_, h.1.2⟩) ?_
  refine mw_icmp_ne X 31 rfl rfl (fun c10 => absurd rfl c10) (fun c10 => ?_)
  refine mw_steps X 1 (pc' := 14) (lv' := [(0, .ref t), (1, .ref t2)]) (st' := [.ref t2]) rfl ?_
  refine mw_get X kf_X1_21.fl kc_1 rfl (v := .ref (t2 + 1)) (fun H h => ⟨_, h.2.1, rfl⟩) ?_
  refine mw_steps X 2 (pc' := 19) (lv' := [(0, .ref t), (1, .ref t2)]) (st' := [.ref t, .int (nI 0), .ref (t2 + 1)]) rfl ?_
  refine mw_get X kf_X1_21.fl kc_1 rfl (v := .ref (t + 1)) (fun H h => ⟨_, h.1.1, rfl⟩) ?_
  refine mw_steps X 2 (pc' := 24) (lv' := [(0, .ref t), (1, .ref t2)]) (st' := [.ref t, .int (nI 0), .ref (t + 1), .int (nI 0), .ref (t2 + 1)]) rfl ?_
  refine mw_get X kf_X1_21.fl kc_1 rfl (v := .ref (t + 1)) (fun H h => ⟨_, h.1.1, rfl⟩) ?_
  refine mw_llen X M rfl (fun H h => ⟨_, h.1.2⟩) ?_
  refine mw_copyl X 0 0 M rfl rfl rfl kl_X1_37 rfl (Nat.le_of_ble_eq_true rfl) (Nat.le_of_ble_eq_true rfl) (I1 := fun H => nb_I Γ t L M (va_cpy f2 f 0 0 M) H ∧ nb_I Γ t2 L2 M f2 H) (fun H h => ⟨Or.inr rfl, _, _, _, _, h.2.2, h.1.2, by omega, by omega, by omega, by omega, fun H1 o c => ⟨h.1.st o c, h.2.1.kept (o.2 _ (by omega)), h.2.2.kept (o.2 _ (by omega))⟩⟩) ?_
  exact mw_vret X rfl rfl (fun H h => ⟨rfl, h⟩)
