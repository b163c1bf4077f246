/-! plain facts for the class's own ways -/
theorem ml_m1 (t : Nat) : nI t + (-1) = nI t - nI 1 := by
  cases t with
  | zero => decide
  | succ t => rw [pk_m1, ml_pred (by omega)]; rfl
theorem ml_rm_upd {W : Nat → Int32} {f z q k i : Nat} {x : Int32} (hi : i < f) (hq : i ≠ q) : mo_rm (upd W i x) f z q k = upd (mo_rm W f z q k) i x := by
  funext j
  unfold mo_rm
  rw [pk_un (Ne.symm hq)]
  by_cases h1 : j = q
  · subst h1; rw [pk_us, pk_un (Ne.symm hq), pk_us]
  · rw [pk_un h1]
    by_cases h2 : j = i
    · subst h2
      rw [pk_us]
      unfold va_cpy
      rw [if_neg (fun a => by have := Nat.le_add_right f (z * k); omega), pk_us]
    · rw [pk_un h2, pk_un h1]
      unfold va_cpy
      by_cases h3 : f + z * k ≤ j ∧ j < f + z * k + z * (mo_n (W q) - 1 - k)
      · rw [if_pos h3, if_pos h3, pk_un (fun a => by have := Nat.le_add_right f (z * (k + 1)); omega)]
      · rw [if_neg h3, if_neg h3, pk_un h2]
theorem ml_askc_add {W : Nat → Int32} {e p : Nat} (he : e < 2) (h : ¬ W 13 = nI 6) : mo_ask W e p = upd (mo_put (upd W (16 + e) (W (16 + e) + nI 1)) (507 + 5 * mo_n (upd W (16 + e) (W (16 + e) + nI 1) 13)) 5 (mo_r5 (nI e) (W (16 + e)) (nI p) (W 0) (nI 0))) 13 (upd W (16 + e) (W (16 + e) + nI 1) 13 + nI 1) := by
  unfold mo_ask
  rw [if_neg h, pk_un (show 13 ≠ 16 + e by omega)]
theorem ml_askc_full {W : Nat → Int32} {e p : Nat} (he : e < 2) (h : W 13 = nI 6) : mo_ask W e p = upd (mo_put (mo_rm (upd W (16 + e) (W (16 + e) + nI 1)) 507 5 13 0) (507 + 5 * mo_n (mo_rm (upd W (16 + e) (W (16 + e) + nI 1)) 507 5 13 0 13)) 5 (mo_r5 (nI e) (W (16 + e)) (nI p) (W 0) (nI 0))) 13 (mo_rm (upd W (16 + e) (W (16 + e) + nI 1)) 507 5 13 0 13 + nI 1) := by
  unfold mo_ask
  rw [if_pos h, ml_rm_upd (by omega) (by omega), pk_un (show 13 ≠ 16 + e by omega)]
/-- letting out, by the way of the class -/
theorem ml_lo_end {V : Nat → Int32} {p n : Nat} (hn : V 12 = nI n) (hn2 : n ≤ 12) (h : ∀ j, j < n → ¬ V (471 + 3 * j) = nI p) : ∀ m, mo_lo p m V = V
  | 0 => rfl
  | m + 1 => by
    unfold mo_lo
    rw [if_neg (by rw [ml_fh_none hn hn2 h, hn, ml_n (by omega)]; omega)]
theorem ml_lo_stop {V : Nat → Int32} {p n k kd : Nat} (hn : V 12 = nI n) (hn2 : n ≤ 12) (hk : k < n) (h : ∀ j, j < k → ¬ V (471 + 3 * j) = nI p) (hy : V (471 + 3 * k) = nI p) (hkd : V (471 + 3 * k + 1) = nI kd) (hkd6 : kd < 6) (hm : mo_may V p kd = false) : ∀ m, mo_lo p m V = V
  | 0 => rfl
  | m + 1 => by
    unfold mo_lo
    rw [ml_fh_is hn hn2 hk hy h, if_pos (by rw [hn, ml_n (by omega)]; exact hk), hkd, ml_n (by omega), hm, if_neg (by decide)]
theorem ml_lo_step {V : Nat → Int32} {p n k kd m : Nat} (hn : V 12 = nI n) (hn2 : n ≤ 12) (hk : k < n) (h : ∀ j, j < k → ¬ V (471 + 3 * j) = nI p) (hy : V (471 + 3 * k) = nI p) (hkd : V (471 + 3 * k + 1) = nI kd) (hkd6 : kd < 6) (hm : mo_may V p kd = true) : mo_lo p (m + 1) V = mo_lo p m (mo_send (mo_rm V 471 3 12 k) 1 p kd (V (471 + 3 * k + 2))) := by
  show (if mo_fh V p < mo_n (V 12) then _ else _) = _
  rw [ml_fh_is hn hn2 hk hy h, if_pos (by rw [hn, ml_n (by omega)]; exact hk), hkd, ml_n (by omega), hm, if_pos rfl]
/-- held rows as a list -/
def hl_row (W : Nat → Int32) (k : Nat) : Int32 × Int32 × Int32 := (W (471 + 3 * k), W (471 + 3 * k + 1), W (471 + 3 * k + 2))
def hl (W : Nat → Int32) : List (Int32 × Int32 × Int32) := (List.range (mo_n (W 12))).map (hl_row W)
theorem hl_len (W : Nat → Int32) : (hl W).length = mo_n (W 12) := by unfold hl; rw [List.length_map, List.length_range]
theorem hl_get {W : Nat → Int32} {k : Nat} (h : k < (hl W).length) : (hl W)[k] = hl_row W k := by
  simp [hl]
theorem hl_rm {W : Nat → Int32} {k n : Nat} (hn : W 12 = nI n) (hn2 : n ≤ 12) (hk : k < n) : hl (mo_rm W 471 3 12 k) = (hl W).eraseIdx k := by
  have hL : (hl W).length = n := by rw [hl_len, hn, ml_n (by omega)]
  have hL2 : (hl (mo_rm W 471 3 12 k)).length = n - 1 := by rw [hl_len, ml_rmh_q hn (by omega), ml_n (by omega)]
  refine List.ext_getElem (by rw [hL2, List.length_eraseIdx, if_pos (by omega), hL]) (fun i h1 h2 => ?_)
  rw [hl_get h1, List.getElem_eraseIdx]
  have hi : i < n - 1 := by omega
  unfold hl_row
  rw [ml_rmh_row0 hn (by omega) hk hi, ml_rmh_row hn (by omega) hk hi (by omega), ml_rmh_row hn (by omega) hk hi (by omega)]
  by_cases q : i < k
  · rw [dif_pos q, hl_get, if_pos q]; rfl
  · rw [dif_neg q, hl_get, if_neg q]; rfl
theorem ls_erase {α : Type} (P : α → Bool) : ∀ (L : List α) (k : Nat) (h : k < L.length), P L[k] = false → (L.eraseIdx k).filter P = L.filter P
  | [], k, h, _ => absurd h (Nat.not_lt_zero k)
  | a :: r, 0, h, hp => by
    have hp' : P a = false := hp
    show r.filter P = _
    rw [List.filter_cons_of_neg (by rw [hp']; decide)]
  | a :: r, k + 1, h, hp => by
    have h1 : k < r.length := by simpa using h
    have ih := ls_erase P r k h1 hp
    show (a :: r.eraseIdx k).filter P = _
    rw [List.filter_cons, List.filter_cons, ih]
theorem hl_dh {p : Nat} : ∀ (m : Nat) (W : Nat → Int32), iv_c W → mo_n (W 12) ≤ m → hl (mo_dh p m W) = (hl W).filter (fun r => !decide (r.1 = nI p))
  | 0, W, hc, h0 => by
    have : hl W = [] := List.eq_nil_of_length_eq_zero (by rw [hl_len]; omega)
    show hl W = _
    rw [this]; rfl
  | m + 1, W, hc, hm => by
    have hn := ml_i12 hc
    have hn2 := ml_n12 hc
    unfold mo_dh
    by_cases hf : mo_fh W p < mo_n (W 12)
    · rw [if_pos hf]
      have hc2 : iv_c (mo_rm W 471 3 12 (mo_fh W p)) := by
        obtain ⟨⟨r, r1, r2⟩, -, ⟨a, a1, a2⟩⟩ := hc
        exact ⟨⟨r, r1, by rw [ml_rmh_out hn (by omega) hf (by omega) (by omega)]; exact r2⟩, ⟨_, by omega, ml_rmh_q hn (by omega)⟩, ⟨a, a1, by rw [ml_rmh_out hn (by omega) hf (by omega) (by omega)]; exact a2⟩⟩
      rw [hl_dh m _ hc2 (by rw [ml_rmh_q hn (by omega), ml_n (by omega)]; omega), hl_rm hn hn2 hf, ls_erase _ _ _ (by rw [hl_len]; exact hf)]
      rw [hl_get]
      have hy := ml_fst_yes _ _ hf
      have hy2 : W (471 + 3 * mo_fh W p) = nI p := of_decide_eq_true hy
      show (!decide (W (471 + 3 * mo_fh W p) = nI p)) = false
      rw [hy2, decide_eq_true rfl]; rfl
    · rw [if_neg hf]
      symm
      rw [List.filter_eq_self]
      intro r hr
      obtain ⟨k, hk, rfl⟩ := List.getElem_of_mem hr
      rw [hl_get]
      rw [hl_len] at hk
      have hno := ml_fst_no (fun k => decide (W (471 + 3 * k) = nI p)) (mo_n (W 12)) k (by have : mo_n (W 12) ≤ mo_fh W p := Nat.le_of_not_lt hf; unfold mo_fh at this; omega)
      show (!decide (W (471 + 3 * k) = nI p)) = true
      rw [hno]; rfl
theorem ls_keep {α : Type} (P : α → Bool) (L : List α) (t : Nat) (ht : t < L.length) (hp : P L[t] = true) : L.take (t + 1) ++ (L.drop (t + 1)).filter P = L.take t ++ (L.drop t).filter P := by
  rw [List.take_succ_eq_append_getElem ht, List.drop_eq_getElem_cons ht, List.filter_cons_of_pos hp, List.append_assoc]; rfl
theorem ls_cut {α : Type} (P : α → Bool) (L : List α) (t : Nat) (ht : t < L.length) (hp : P L[t] = false) : (L.take (t + 1) ++ (L.drop (t + 1)).filter P).eraseIdx t = L.take t ++ (L.drop t).filter P := by
  rw [List.take_succ_eq_append_getElem ht, List.drop_eq_getElem_cons ht, List.filter_cons_of_neg (by rw [hp]; decide), List.append_assoc]
  have hl : (L.take t).length = t := by rw [List.length_take]; omega
  rw [List.eraseIdx_append_of_length_le (by omega), hl, Nat.sub_self]; rfl
theorem hl_eq {W V : Nat → Int32} (h : hl W = hl V) : mo_n (W 12) = mo_n (V 12) ∧ ∀ k, k < mo_n (W 12) → ∀ j, j < 3 → W (471 + 3 * k + j) = V (471 + 3 * k + j) := by
  have hl2 : mo_n (W 12) = mo_n (V 12) := by rw [← hl_len, ← hl_len, h]
  refine ⟨hl2, fun k hk j hj => ?_⟩
  have h1 : hl_row W k = hl_row V k := by
    rw [← hl_get (by rw [hl_len]; exact hk), ← hl_get (W := V) (by rw [hl_len]; omega)]
    congr 1
  unfold hl_row at h1
  rcases (show j = 0 ∨ j = 1 ∨ j = 2 by omega) with rfl | rfl | rfl
  · exact congrArg (fun r => r.1) h1
  · exact congrArg (fun r => r.2.1) h1
  · exact congrArg (fun r => r.2.2) h1
theorem ws_I.hl {Γ : mw_C} {b : Nat} {W V : Nat → Int32} {sd : Int32} {H : Heap} (h : ws_I Γ b W sd H) (hW : iv_c W) (hV : iv_c V) (he : hl V = hl W) (ho : ∀ j, ¬ (j = 12 ∨ (471 ≤ j ∧ j < 507)) → V j = W j) : ws_I Γ b V sd H := by
  obtain ⟨h1, h2⟩ := hl_eq he
  refine h.to2 (by rw [ml_i12 hV, ml_i12 hW, h1]) (fun k hk j hj => h2 k (by omega) j hj) ho
/-- the house follows: what is so before it doubts, and whether it does -/
def mo_folB (W : Nat → Int32) (p k y : Nat) : Bool := decide ((k = 0 ∨ 3 < k) ∧ W 6 < nI y ∧ ¬ W 3 = nI p)
def mo_folS (W : Nat → Int32) (p k y : Nat) : Nat → Int32 :=
  if (k = 0 ∨ 3 < k) ∧ W 6 < nI y then (if W 3 = nI p then upd W 6 (nI y) else upd (upd (upd W 6 (nI y)) 5 (if W (32 + mo_n (W 3)) = nI 1 then W 3 else W 5)) 3 (nI p)) else W
theorem ml_fol (W : Nat → Int32) (p k y : Nat) : mo_new W p k y = if mo_folB W p k y = true then mo_once (mo_folS W p k y) p else mo_folS W p k y := by
  unfold mo_new mo_folB mo_folS mo_follow
  by_cases h1 : (k = 0 ∨ 3 < k) ∧ W 6 < nI y
  · rw [if_pos h1, if_pos h1, pk_un (show 3 ≠ 6 by omega)]
    by_cases h2 : W 3 = nI p
    · rw [if_pos h2, if_pos h2, if_neg (by rw [decide_eq_true_eq]; exact fun q => q.2.2 h2)]
    · rw [if_neg h2, if_neg h2, pk_un (show 32 + mo_n (W 3) ≠ 6 by omega), pk_un (show 5 ≠ 6 by omega), decide_eq_true (show (k = 0 ∨ 3 < k) ∧ W 6 < nI y ∧ ¬ W 3 = nI p from ⟨h1.1, h1.2, h2⟩), if_pos (show true = true from rfl)]
  · rw [if_neg h1, if_neg h1, if_neg (by rw [decide_eq_true_eq]; exact fun q => h1 ⟨q.1, q.2.1⟩)]
theorem ml_once_y {W : Nat → Int32} {p : Nat} (h : ¬ W (32 + p) = nI 1) (h01 : W (32 + p) = nI 0 ∨ W (32 + p) = nI 1) (h2 : ¬ mo_fa W 1 2 (nI p) < mo_n (W 13)) : mo_once W p = mo_challenge W 1 p := by
  unfold mo_once
  rw [if_pos ⟨by rcases h01 with q | q; exact q; exact absurd q h, h2⟩]
theorem ml_once_p {W : Nat → Int32} {p : Nat} (h : W (32 + p) = nI 1) : mo_once W p = W := by
  unfold mo_once
  rw [if_neg (fun q => by rw [h] at q; exact absurd q.1 (by decide))]
theorem ml_once_a {W : Nat → Int32} {p : Nat} (h : mo_fa W 1 2 (nI p) < mo_n (W 13)) : mo_once W p = W := by
  unfold mo_once
  rw [if_neg (fun q => q.2 h)]
theorem ml_ixN {k n : Nat} (hn : n ≤ 1000) : mo_ix k n = -1 ↔ ¬ k < n := by
  unfold mo_ix
  by_cases h : k < n
  · rw [if_pos h]
    exact ⟨fun q => absurd (by rw [q]; decide) (nI_pos (n := k) (by omega)), fun q => absurd h q⟩
  · rw [if_neg h]; exact ⟨fun _ => h, fun _ => rfl⟩
theorem ivc_rmh {W : Nat → Int32} {k : Nat} (hc : iv_c W) (hk : k < mo_n (W 12)) : iv_c (mo_rm W 471 3 12 k) := by
  have hn := ml_i12 hc
  have hn2 := ml_n12 hc
  obtain ⟨⟨r, r1, r2⟩, -, ⟨a, a1, a2⟩⟩ := hc
  exact ⟨⟨r, r1, by rw [ml_rmh_out hn (by omega) hk (by omega) (by omega)]; exact r2⟩, ⟨_, by omega, ml_rmh_q hn (by omega)⟩, ⟨a, a1, by rw [ml_rmh_out hn (by omega) hk (by omega) (by omega)]; exact a2⟩⟩
theorem ivc_dh {p : Nat} : ∀ (m : Nat) (W : Nat → Int32), iv_c W → iv_c (mo_dh p m W)
  | 0, W, h => h
  | m + 1, W, h => by
    unfold mo_dh
    by_cases hf : mo_fh W p < mo_n (W 12)
    · rw [if_pos hf]; exact ivc_dh m _ (ivc_rmh h hf)
    · rw [if_neg hf]; exact h
