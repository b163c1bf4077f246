theorem ml_uu {W : Nat → Int32} {i : Nat} {x y : Int32} : upd (upd W i x) i y = upd W i y := by
  funext j
  by_cases h : j = i
  · subst h; rw [pk_us, pk_us]
  · rw [pk_un h, pk_un h, pk_un h]
theorem ml_comm {W : Nat → Int32} {i k : Nat} {x y : Int32} (h : i ≠ k) : upd (upd W i x) k y = upd (upd W k y) i x := by
  funext j
  by_cases h1 : j = k
  · subst h1; rw [pk_us, pk_un (Ne.symm h), pk_us]
  · by_cases h2 : j = i
    · subst h2; rw [pk_un h1, pk_us, pk_us]
    · rw [pk_un h1, pk_un h2, pk_un h2, pk_un h1]
theorem ml_mask31 {n : Nat} (hn : n < 2 ^ 63) : lN n &&& lN 2147483647 = lN (n % 2147483648) := by
  have h1 : ∀ m : Nat, (lN m).toBitVec.toNat = m % 2 ^ 64 := fun m => BitVec.toNat_ofNat m 64
  apply Int64.toBitVec_inj.mp
  apply BitVec.eq_of_toNat_eq
  rw [Int64.toBitVec_and, BitVec.toNat_and, h1, h1, h1, Nat.mod_eq_of_lt (show n < 2 ^ 64 by omega), Nat.mod_eq_of_lt (show 2147483647 < 2 ^ 64 by decide), Nat.mod_eq_of_lt (show n % 2147483648 < 2 ^ 64 by omega)]
  exact Nat.and_two_pow_sub_one_eq_mod n 31
theorem ml_seedC {sd : Int32} (hs : 0 ≤ sd) : ((sd.toInt64 * 1103515245 + 12345) &&& 2147483647).toInt32 = mo_seed sd := by
  obtain ⟨s, h1, rfl⟩ := nI_of (x := sd) (Int32.not_lt.mpr hs)
  rw [ml_seed h1, nI_l h1, show (1103515245 : Int64) = lN 1103515245 from rfl, show (12345 : Int64) = lN 12345 from rfl, show (2147483647 : Int64) = lN 2147483647 from rfl, lN_mul, lN_add, ml_mask31 (by omega), lN_i]
theorem ml_drawC {sd n : Int32} : mo_seed sd / 65536 - mo_seed sd / 65536 / n * n = mo_draw sd n := by
  rw [mo_draw_e]
  unfold mo_drawR
  rw [← mo_seed_e]
/-- the class's own test of a live name -/
theorem ml_liveC {W : Nat → Int32} {c : Nat} {x : Int32} (h : iv c W) : (mo_bl x 40 && decide (W (47 + mo_n x) = nI 1)) = mo_live W x := by
  obtain ⟨g, g2, g40, hg, hn⟩ := h.2.2.2.2.2.2.1
  unfold mo_live mo_bl
  rw [hg]
  by_cases h0 : 0 ≤ x
  · obtain ⟨j, hj, rfl⟩ := nI_of (x := x) (Int32.not_lt.mpr h0)
    rw [show mo_n (nI j) = j from nI_clamp (by omega), decide_eq_true h0]
    simp only [Bool.true_and]
    by_cases h1 : j < g
    · rw [decide_eq_true (show nI j < nI 40 by rw [nI_ltI (by omega) (by omega)]; omega), decide_eq_true (show nI j < nI g by rw [nI_ltI (by omega) (by omega)]; omega)]
    · rw [decide_eq_false (show ¬ nI j < nI g by rw [nI_ltI (by omega) (by omega)]; omega), Bool.false_and]
      by_cases h2 : j < 40
      · rw [decide_eq_false (show ¬ W (47 + j) = nI 1 by rw [(hn j h2).2.1 (by omega)]; decide), Bool.and_false]
      · rw [decide_eq_false (show ¬ nI j < nI 40 by rw [nI_ltI (by omega) (by omega)]; omega), Bool.false_and]
  · rw [decide_eq_false h0]; rfl
theorem iv_folS {W : Nat → Int32} {c p k y : Nat} (h : iv c W) (hp : p < 5) : iv c (mo_folS W p k y) := by
  unfold mo_folS
  split
  · split
    · exact h.free (fun j a => pk_un (by omega))
    · obtain ⟨q, hq, h3⟩ := ml_c3 h
      obtain ⟨b1, b2, b3⟩ := h.2.2.2.2.2.2.2.2
      have hb : (if W (32 + mo_n (W 3)) = nI 1 then W 3 else W 5) = -1 ∨ ∃ p, p < 5 ∧ (if W (32 + mo_n (W 3)) = nI 1 then W 3 else W 5) = nI p := by
        split
        · exact Or.inr ⟨q, hq, h3⟩
        · exact b2
      have hb2 : ∃ p, p < 5 ∧ (if W (32 + mo_n (W 3)) = nI 1 then W 3 else W 5) = nI p := by
        split
        · exact ⟨q, hq, h3⟩
        · next hn =>
          rcases b3 with z | z
          · exact absurd z hn
          · exact z
      have h6 : iv c (upd W 6 (nI y)) := h.free (fun j a => pk_un (by omega))
      refine iv_cur h6 (fun j a => by rw [pk_un (by omega), pk_un (by omega)]) ?_ ⟨p, hp, pk_us⟩ ?_ ?_ (Or.inr ?_)
      · rw [pk_un (by omega), pk_un (by omega), pk_un (by omega)]; exact ml_c2 h
      · rw [pk_un (by omega), pk_un (by omega), pk_un (by omega)]; exact b1
      · rw [pk_un (by omega), pk_us]; exact hb
      · rw [pk_un (by omega), pk_us]; exact hb2
  · exact h
theorem ml_folS_n {W : Nat → Int32} {p k y : Nat} (h : ¬ ((k = 0 ∨ 3 < k) ∧ W 6 < nI y)) : mo_folS W p k y = W ∧ mo_folB W p k y = false := by
  unfold mo_folS mo_folB
  exact ⟨if_neg h, decide_eq_false (fun q => h ⟨q.1, q.2.1⟩)⟩
theorem ml_folS_s {W : Nat → Int32} {p k y : Nat} (h : k = 0 ∨ 3 < k) (h2 : W 6 < nI y) (h3 : W 3 = nI p) : mo_folS W p k y = upd W 6 (nI y) ∧ mo_folB W p k y = false := by
  unfold mo_folS mo_folB
  exact ⟨by rw [if_pos ⟨h, h2⟩, if_pos h3], decide_eq_false (fun q => q.2.2 h3)⟩
theorem ml_folS_y {W : Nat → Int32} {p k y cu : Nat} (h : k = 0 ∨ 3 < k) (h2 : W 6 < nI y) (hcu : W 3 = nI cu) (hcu5 : cu < 5) (h3 : ¬ nI p = nI cu) (h4 : W (32 + cu) = nI 1) : mo_folS W p k y = upd (upd (upd W 6 (nI y)) 5 (nI cu)) 3 (nI p) ∧ mo_folB W p k y = true := by
  unfold mo_folS mo_folB
  have h3' : ¬ W 3 = nI p := fun q => h3 (by rw [← q, hcu])
  exact ⟨by rw [if_pos ⟨h, h2⟩, if_neg h3', hcu, ml_n (by omega), if_pos h4], decide_eq_true ⟨h, h2, h3'⟩⟩
theorem ml_folS_z {W : Nat → Int32} {p k y cu : Nat} (h : k = 0 ∨ 3 < k) (h2 : W 6 < nI y) (hcu : W 3 = nI cu) (hcu5 : cu < 5) (h3 : ¬ nI p = nI cu) (h4 : ¬ W (32 + cu) = nI 1) : mo_folS W p k y = upd (upd W 6 (nI y)) 3 (nI p) ∧ mo_folB W p k y = true := by
  unfold mo_folS mo_folB
  have h3' : ¬ W 3 = nI p := fun q => h3 (by rw [← q, hcu])
  exact ⟨by rw [if_pos ⟨h, h2⟩, if_neg h3', hcu, ml_n (by omega), if_neg h4, ml_same (W := upd W 6 (nI y)) (i := 5) (x := W 5) (pk_un (by omega))], decide_eq_true ⟨h, h2, h3'⟩⟩
theorem ml_note_out {W : Nat → Int32} {e y j : Nat} (h : j < 537) : mo_note W e y j = W j := by unfold mo_note; exact pk_un (by omega)
theorem ml_sureC {W : Nat → Int32} {x : Int32} {k pl : Nat} (hk : k = mo_fa W 0 1 x) (hf : k < mo_n (W 13)) (hp : W (507 + 5 * k + 2) = nI pl) (hpl : pl < 5) : mo_sure W x = upd (mo_rm W 507 5 13 k) (27 + pl) (nI 1) := by
  rw [ml_sure_t hk hf hp hpl, ml_rm_upd (by omega) (by omega)]
theorem ml_opn {W : Nat → Int32} {c p : Nat} (h : iv c W) (hp : p < 5) : (!decide (W (22 + p) = -1)) = decide (0 ≤ W (22 + p)) := by
  rcases (h.2.2.2.2.2.1 p hp).1 with q | ⟨n, hn, q⟩
  · rw [q]; decide
  · rw [q, decide_eq_true (nI_pos' (by omega)), decide_eq_false (fun z => nI_pos (n := n) (by omega) (by rw [z]; decide))]; rfl
