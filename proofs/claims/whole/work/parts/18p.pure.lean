theorem mw_tsInL {Γ : mw_C} {p : Program} {l : Launch} {e : Env} {R : Room} {s : State} {m : MethodId} {args : Array Value} {below : List Frame} {meth : Method} {c : Code} {A : Nat → Prop} {Q : State → Prop} {I : Heap → Prop} {ce sl pc : Nat} {d : mw_M} {P : List (Nat × Instr × Nat)} {lv : List (Nat × Value)} {rest : List Value} (X : mw_Ok Γ p s m args meth c A d P) {x : Int32} (lo j : Nat) (hj : x = nI j) (hj2 : j < 2 ^ 31) (hlo : lo ≤ j) {off dflt hi : Int} {offs : Array Int} {len : Nat} (tgt : Nat) (ha : mw_at P pc = some (.tableswitch dflt (lo : Int) hi offs, len)) (h2 : (j : Int) ≤ hi) (ho : offs[j - lo]? = some off) (ht : mw_tg pc off = some tgt) (kt : mw_G p l e R s m args below meth c A d.2.2.1 Q I ce sl tgt lv rest) : mw_G p l e R s m args below meth c A d.2.2.1 Q I ce sl pc lv (.int x :: rest) :=
  fun H locs ls hI hS hl => lv_tableIn X.hx X.hb (X.hd ha) (by rw [hj, nI_toInt hj2]; omega) (by rw [hj, nI_toInt hj2]; omega) (by rw [hj, nI_toInt hj2, show ((j : Int) - (lo : Int)).toNat = j - lo by omega]; exact ho) (mw_tg_ok ht) (kt H locs ls hI hS hl)
theorem ml_out {x : Int32} {n : Nat} (hn : n ≤ 1000) (h : mo_bl x n = false) : x.toInt < 0 ∨ (n : Int) - 1 < x.toInt := by
  by_cases h0 : 0 ≤ x
  · right
    obtain ⟨j, hj, rfl⟩ := nI_of (x := x) (Int32.not_lt.mpr h0)
    rw [nI_toInt hj]
    by_cases hj2 : j < n
    · rw [mo_bl_n hj2 (by omega)] at h; cases h
    · omega
  · left
    rw [Int32.le_iff_toInt_le] at h0
    simpa using h0
theorem ml_putS (W : Nat → Int32) {a t : Nat} (r : Nat → Int32) : upd (mo_put W a t r) (a + t) (r t) = mo_put W a (t + 1) r := by
  funext j
  by_cases hj : j = a + t
  · subst hj
    rw [pk_us, mo_put_in (by omega) (by omega)]
    congr 1
    omega
  · rw [pk_un hj]
    by_cases h2 : a ≤ j ∧ j < a + t
    · rw [mo_put_in h2.1 h2.2, mo_put_in h2.1 (by omega)]
    · rw [mo_put_out (by omega), mo_put_out (by omega)]
theorem ml_put0 (W : Nat → Int32) {a : Nat} (r : Nat → Int32) : mo_put W a 0 r = W := by
  funext j
  rw [mo_put_out (by omega)]
theorem ml_hw3 (W : Nat → Int32) (name : Int32) (y : Nat) : mo_houseWhy W name y ≤ 3 := by unfold mo_houseWhy; split; split <;> omega; omega
theorem ml_gw3 (W : Nat → Int32) (p y : Nat) : mo_guestWhy W p y ≤ 3 := by unfold mo_guestWhy; split; omega; split <;> omega
theorem ml_arr {W V : Nat → Int32} {k wy : Nat} (hw : wy = mo_why W k) (hV : V = mo_taken W k) (z : Int32) (hz : (wy = 0 ∧ z = nI 0) ∨ (¬ wy = 0 ∧ z = nI 1)) : mo_arr W k = upd V (6 + wy) (V (6 + wy) + z) := by
  unfold mo_arr
  rw [← hw, ← hV]
  rcases hz with ⟨h1, h2⟩ | ⟨h1, h2⟩
  · rw [if_pos h1, h2, ml_plus0, ml_same rfl]
  · rw [if_neg h1, h2]
theorem ml_why_h {W : Nat → Int32} {k p y : Nat} (h : W (327 + 6 * k) = nI 0) (hp : W (327 + 6 * k + 1) = nI p) (hy : W (327 + 6 * k + 3) = nI y) (hp5 : p < 5) (hy2 : y < 32768) : mo_why W k = mo_houseWhy (mo_rm W 327 6 11 k) (W (327 + 6 * k + 2)) y := by
  unfold mo_why
  rw [h, nI_0, if_pos rfl, hy, ml_n (by omega)]
theorem ml_taken_h {W : Nat → Int32} {k p y kd : Nat} (h : W (327 + 6 * k) = nI 0) (hp : W (327 + 6 * k + 1) = nI p) (hy : W (327 + 6 * k + 3) = nI y) (hkd : W (327 + 6 * k + 4) = nI kd) (hp5 : p < 5) (hy2 : y < 32768) (hk6 : kd < 6) : mo_taken W k = mo_house (mo_rm W 327 6 11 k) p (W (327 + 6 * k + 2)) y kd (W (327 + 6 * k + 5)) := by
  unfold mo_taken
  rw [h, nI_0, if_pos rfl, hp, hy, hkd, ml_n (by omega), ml_n (by omega), ml_n (by omega)]
theorem ml_why_g {W : Nat → Int32} {k p y : Nat} (h : W (327 + 6 * k) = nI 1) (hp : W (327 + 6 * k + 1) = nI p) (hy : W (327 + 6 * k + 3) = nI y) (hp5 : p < 5) (hy2 : y < 32768) : mo_why W k = mo_guestWhy (mo_rm W 327 6 11 k) p y := by
  unfold mo_why
  rw [h, if_neg (by decide), hp, hy, ml_n (by omega), ml_n (by omega)]
theorem ml_taken_g {W : Nat → Int32} {k p y kd : Nat} (h : W (327 + 6 * k) = nI 1) (hp : W (327 + 6 * k + 1) = nI p) (hy : W (327 + 6 * k + 3) = nI y) (hkd : W (327 + 6 * k + 4) = nI kd) (hp5 : p < 5) (hy2 : y < 32768) (hk6 : kd < 6) : mo_taken W k = mo_guest (mo_rm W 327 6 11 k) p y kd (W (327 + 6 * k + 5)) := by
  unfold mo_taken
  rw [h, if_neg (by decide), hp, hy, hkd, ml_n (by omega), ml_n (by omega), ml_n (by omega)]
theorem ml_cntS (P : Nat → Bool) (t : Nat) : nI (mo_cnt P t) + nI (if P t then 1 else 0) = nI (mo_cnt P (t + 1)) := by rw [nI_add]; rfl
theorem ml_ha_iff {W : Nat → Int32} {e n : Nat} (hn : W (19 - e) = nI n) (h40 : n ≤ 40) : mo_ha W e = true ↔ ∀ j, j < n → W (127 + 100 * e + j) = nI 1 := by
  unfold mo_ha
  rw [decide_eq_true_eq, hn, ml_n (by omega)]
  constructor
  · intro h j hj
    have := ml_fst_no (fun k => !decide (W (127 + 100 * e + k) = nI 1)) 100 j (Nat.lt_of_lt_of_le hj h)
    simpa using this
  · intro h
    by_cases hc : n ≤ mo_row W e
    · exact hc
    · have h1 : mo_row W e < 100 := by omega
      have h2 := ml_fst_yes (fun k => !decide (W (127 + 100 * e + k) = nI 1)) 100 h1
      have h3 := h (mo_row W e) (by omega)
      have h2 : (!decide (W (127 + 100 * e + mo_row W e) = nI 1)) = true := h2
      rw [h3] at h2
      simp at h2
/-- the book: what its rows may be -/
def iv_k (ρ : md_R) : Prop := ∃ n, n ≤ 20 ∧ ρ.2.2.2.2.2.2 = nI n ∧ ∀ k, k < n → ∃ e v b, e < 2 ∧ v < 40 ∧ b < 2 ∧ ρ.2.2.2.1 k = nI e ∧ ρ.2.2.2.2.1 k = nI v ∧ ρ.2.2.2.2.2.1 k = nI b
