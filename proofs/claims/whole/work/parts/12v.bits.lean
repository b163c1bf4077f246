/-! bits -/
theorem mb_amt : ∀ m : Nat, m < 32 → ((nI m &&& 31).toBitVec.smod 32).toNat = m := by decide +kernel
theorem mb_one (x : BitVec 32) : x &&& 1#32 = 1#32 ↔ x.getLsbD 0 = true := by
  constructor
  · intro h
    have := congrArg (fun z => BitVec.getLsbD z 0) h
    simpa using this
  · intro h
    apply BitVec.eq_of_getLsbD_eq
    intro i hi
    by_cases h0 : i = 0
    · subst h0; simp [h]
    · simp [h0]
theorem mb_get (x : Int32) {m : Nat} (hm : m < 32) : (x >>> (nI m &&& 31)) &&& nI 1 = nI 1 ↔ x.toBitVec.getLsbD m = true := by
  rw [← Int32.toBitVec_inj]
  show (x.toBitVec.sshiftRight ((nI m &&& 31).toBitVec.smod 32).toNat) &&& 1#32 = 1#32 ↔ _
  rw [mb_one, mb_amt m hm, BitVec.getLsbD_sshiftRight]
  simp [hm]
theorem mb_set (x : Int32) {m i : Nat} (hm : m < 32) (hi : i < 32) : (x ||| nI 1 <<< (nI m &&& 31)).toBitVec.getLsbD i = (x.toBitVec.getLsbD i || decide (i = m)) := by
  show (x.toBitVec ||| (1#32 <<< ((nI m &&& 31).toBitVec.smod 32).toNat)).getLsbD i = _
  rw [mb_amt m hm, BitVec.getLsbD_or, BitVec.getLsbD_shiftLeft]
  congr 1
  by_cases h1 : i = m
  · subst h1; simp [hi]
  · by_cases h2 : i < m
    · simp [h2, h1]
    · have h3 : i - m ≠ 0 := by omega
      simp [hi, h2, h1, h3]
theorem mb_note {W : Nat → Int32} {e y : Nat} (he : e < 2) (y2 : Nat) (hy : y < 32768) (hy2 : y2 < 32768) : mo_bit (mo_note W e y) e y2 = (mo_bit W e y2 || decide (y2 = y)) := by
  unfold mo_bit mo_note
  by_cases h : y2 / 32 = y / 32
  · rw [h, pk_us, mb_set _ (by omega) (by omega)]
    congr 1
    by_cases h2 : y2 = y
    · subst h2; simp
    · have : ¬ y2 % 32 = y % 32 := by omega
      simp [h2, this]
  · rw [pk_un (by omega)]
    have : ¬ y2 = y := fun q => h (by rw [q])
    simp [this]
theorem mb_wide_le (a b : Int32) : a.toInt64 ≤ b.toInt64 ↔ a ≤ b := by rw [Int64.le_iff_toInt_le, Int32.le_iff_toInt_le, Int32.toInt_toInt64, Int32.toInt_toInt64]
theorem ml_in0 {x : Int32} {g : Nat} (hg : 0 < g) (hg2 : g ≤ 100000) : mo_in x.toInt64 0 (nI g - nI 1).toInt64 = true ↔ 0 ≤ x ∧ x < nI g := by
  rw [ml_pred hg]
  unfold mo_in
  rw [Bool.and_eq_true, decide_eq_true_eq, decide_eq_true_eq, mb_wide_le, show (0 : Int64) = (0 : Int32).toInt64 by decide, mb_wide_le]
  constructor
  · rintro ⟨h1, h2⟩
    obtain ⟨j, hj, rfl⟩ := nI_of (x := x) (Int32.not_lt.mpr h1)
    rw [nI_leI hj (by omega)] at h2
    exact ⟨h1, nI_lt (by omega) (by omega)⟩
  · rintro ⟨h1, h2⟩
    obtain ⟨j, hj, rfl⟩ := nI_of (x := x) (Int32.not_lt.mpr h1)
    rw [nI_ltI hj (by omega)] at h2
    exact ⟨h1, nI_le (by omega) (by omega)⟩
theorem ml_of_range {x : Int32} {g : Nat} (h1 : 0 ≤ x) (h2 : x < nI g) (hg : g ≤ 100000) : ∃ j, j < g ∧ x = nI j := by
  obtain ⟨j, hj, rfl⟩ := nI_of (x := x) (Int32.not_lt.mpr h1)
  rw [nI_ltI hj (by omega)] at h2
  exact ⟨j, h2, rfl⟩
theorem ml_ask_add {W : Nat → Int32} {e p n : Nat} (hn : W 13 = nI n) (hn2 : n ≤ 6) (h : ¬ nI n = nI 6) : mo_ask W e p = upd (upd (upd (upd (upd (upd (upd W (16 + e) (W (16 + e) + nI 1)) (507 + 5 * n) (nI e)) (507 + 5 * n + 1) (W (16 + e))) (507 + 5 * n + 2) (nI p)) (507 + 5 * n + 3) (W 0)) (507 + 5 * n + 4) (nI 0)) 13 (nI n + nI 1) := by
  unfold mo_ask
  rw [hn, if_neg h]
  dsimp only
  rw [hn, mo_put5, ml_n (by omega)]
theorem ml_ask_full {W V : Nat → Int32} {e p : Nat} (hn : W 13 = nI 6) (hV : V = mo_rm W 507 5 13 0) (he : e < 2) : mo_ask W e p = upd (upd (upd (upd (upd (upd (upd V (16 + e) (W (16 + e) + nI 1)) (507 + 5 * 5) (nI e)) (507 + 5 * 5 + 1) (W (16 + e))) (507 + 5 * 5 + 2) (nI p)) (507 + 5 * 5 + 3) (W 0)) (507 + 5 * 5 + 4) (nI 0)) 13 (nI 5 + nI 1) := by
  have hq : V 13 = nI 5 := by rw [hV]; exact ml_rma_q hn (by omega)
  unfold mo_ask
  rw [if_pos hn, ← hV]
  dsimp only
  rw [hq, mo_put5, ml_n (by omega)]
theorem ml_ix_ge {k n : Nat} (hn : n ≤ 100) : 0 ≤ mo_ix k n ↔ k < n := by
  unfold mo_ix
  split
  · next h => exact ⟨fun _ => h, fun _ => nI_pos' (by omega)⟩
  · next h => exact ⟨fun q => absurd q (by decide), fun q => absurd q h⟩
theorem ml_once_t {W : Nat → Int32} {p : Nat} (h : W (32 + p) = 0) (h2 : ¬ mo_fa W 1 2 (nI p) < mo_n (W 13)) : mo_once W p = mo_challenge W 1 p := by unfold mo_once; rw [if_pos ⟨h, h2⟩]
theorem ml_once_f1 {W : Nat → Int32} {p : Nat} (h : ¬ W (32 + p) = 0) : mo_once W p = W := by unfold mo_once; rw [if_neg (fun q => h q.1)]
theorem ml_once_f2 {W : Nat → Int32} {p : Nat} (h2 : mo_fa W 1 2 (nI p) < mo_n (W 13)) : mo_once W p = W := by unfold mo_once; rw [if_neg (fun q => q.2 h2)]
theorem ml_row_is {W : Nat → Int32} {e t : Nat} (ht : t < 100) (hy : ¬ W (127 + 100 * e + t) = nI 1) (hno : ∀ j, j < t → W (127 + 100 * e + j) = nI 1) : mo_row W e = t := ml_fst_is ht (by simp [hy]) (fun j hj => by simp [hno j hj])
theorem ml_row_all {W : Nat → Int32} {e : Nat} (hno : ∀ j, j < 100 → W (127 + 100 * e + j) = nI 1) : mo_row W e = 100 := ml_fst_none (fun j hj => by simp [hno j hj])
def mo_fol (W : Nat → Int32) (p : Nat) : Nat → Int32 := upd (upd W 5 (if W (32 + mo_n (W 3)) = nI 1 then W 3 else W 5)) 3 (nI p)
theorem ml_follow_t {W : Nat → Int32} {p : Nat} (h : W 3 = nI p) : mo_follow W p = W := by unfold mo_follow; rw [if_pos h]
theorem ml_follow_f {W : Nat → Int32} {p : Nat} (h : ¬ W 3 = nI p) : mo_follow W p = mo_once (mo_fol W p) p := by unfold mo_follow; rw [if_neg h]; rfl
theorem iv_fol {W : Nat → Int32} {c p : Nat} (h : iv c W) (hp : p < 5) : iv c (mo_fol W p) := by
  unfold mo_fol
  obtain ⟨q, hq, h3⟩ := ml_c3 h
  obtain ⟨b1, b2, b3⟩ := h.2.2.2.2.2.2.2.2
  have hb2 : ∃ p, p < 5 ∧ (if W (32 + mo_n (W 3)) = nI 1 then W 3 else W 5) = nI p := by
    split
    · exact ⟨q, hq, h3⟩
    · next hn =>
      rcases b3 with z | z
      · exact absurd z hn
      · exact z
  refine iv_cur h (fun j a => by rw [pk_un (by omega), pk_un (by omega)]) ?_ ⟨p, hp, pk_us⟩ ?_ ?_ (Or.inr ?_)
  · rw [pk_un (by omega), pk_un (by omega)]; exact ml_c2 h
  · rw [pk_un (by omega), pk_un (by omega)]; exact b1
  · rw [pk_un (by omega), pk_us]; exact Or.inr hb2
  · rw [pk_un (by omega), pk_us]; exact hb2
theorem ml_prove_t {W : Nat → Int32} {x : Int32} {k pl : Nat} (hk : k = mo_fa W 1 1 x) (hf : k < mo_n (W 13)) (hp : W (507 + 5 * k + 2) = nI pl) (hpl : pl < 5) : mo_prove W x = mo_letOut (upd (mo_rm W 507 5 13 k) (32 + pl) (nI 1)) pl := by
  unfold mo_prove
  rw [← hk, if_pos hf, hp, ml_n (by omega)]
theorem ml_prove_f {W : Nat → Int32} {x : Int32} (hf : ¬ mo_fa W 1 1 x < mo_n (W 13)) : mo_prove W x = W := by unfold mo_prove; rw [if_neg hf]
theorem ml_live_in {W : Nat → Int32} {x : Int32} {g : Nat} (hg : W 1 = nI g) (h1 : 0 < g) (h2 : g ≤ 40) : mo_live W x = (mo_in x.toInt64 0 (nI g - nI 1).toInt64 && decide (W (47 + mo_n x) = nI 1)) := by
  unfold mo_live
  rw [hg]
  congr 1
  have := ml_in0 (x := x) h1 (by omega : g ≤ 100000)
  cases hb : mo_in x.toInt64 0 (nI g - nI 1).toInt64 with
  | true => rw [hb] at this; simpa using this.mp rfl
  | false =>
    rw [hb] at this
    have h3 : ¬ (0 ≤ x ∧ x < nI g) := fun q => by cases this.mpr q
    cases hc : (decide (0 ≤ x) && decide (x < nI g)) with
    | false => rfl
    | true =>
      rw [Bool.and_eq_true, decide_eq_true_eq, decide_eq_true_eq] at hc
      exact absurd hc h3
