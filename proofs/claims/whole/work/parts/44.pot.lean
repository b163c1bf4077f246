/-! how many letters may be numbered: what grows with each draw -/
def sm (f : Nat → Nat) : Nat → Nat
  | 0 => 0
  | n + 1 => sm f n + f n
theorem sm_cg {f g : Nat → Nat} : ∀ {n : Nat}, (∀ k, k < n → f k = g k) → sm f n = sm g n
  | 0, _ => rfl
  | n + 1, h => by
    show sm f n + f n = sm g n + g n
    rw [sm_cg (fun k hk => h k (by omega)), h n (by omega)]
theorem sm_rm {f : Nat → Nat} {k : Nat} : ∀ {n : Nat}, k < n → sm (fun i => f (if i < k then i else i + 1)) (n - 1) + f k = sm f n
  | 0, h => absurd h (Nat.not_lt_zero k)
  | n + 1, h => by
    show sm _ n + f k = sm f n + f n
    by_cases q : k = n
    · subst q
      rw [sm_cg (g := f) (fun i hi => by rw [if_pos hi])]
    · have ih := sm_rm (f := f) (k := k) (n := n) (by omega)
      obtain ⟨m, rfl⟩ : ∃ m, n = m + 1 := ⟨n - 1, by omega⟩
      rw [Nat.add_sub_cancel] at ih
      show sm _ m + f (if m < k then m else m + 1) + f k = sm f (m + 1) + f (m + 1)
      rw [if_neg (by omega), ← ih]
      omega
def ro (W : Nat → Int32) : Nat := sm (fun k => 2 - mo_n (W (507 + 5 * k + 4))) (mo_n (W 13))
def rgf (W : Nat → Int32) (k : Nat) : Nat := if W (507 + 5 * k) = nI 0 then 4 - mo_n (W (507 + 5 * k + 4)) else 0
def rg (W : Nat → Int32) : Nat := sm (rgf W) (mo_n (W 13))
def sp (W : Nat → Int32) : Nat := mo_cnt (fun k => !decide (W (87 + k) = nI 2)) 40
def PH (W : Nat → Int32) : Nat := 2 * (mo_n (W 15) + mo_n (W 12)) + ro W
def PG (W : Nat → Int32) : Nat := mo_n (W 14) + rg W + 5 * sp W
/-- they grow by no more than this; the images stay -/
def rl (a b : Nat) (W W' : Nat → Int32) : Prop := PH W' ≤ PH W + a ∧ PG W' ≤ PG W + b ∧ ∀ j, 3137 ≤ j → W' j = W j
theorem rl.trans {a b a' b' : Nat} {W W' W'' : Nat → Int32} (h : rl a b W W') (h2 : rl a' b' W' W'') : rl (a + a') (b + b') W W'' :=
  ⟨by have := h.1; have := h2.1; omega, by have := h.2.1; have := h2.2.1; omega, fun j hj => (h2.2.2 j hj).trans (h.2.2 j hj)⟩
theorem rl.mono {a b a' b' : Nat} {W W' : Nat → Int32} (h : rl a b W W') (ha : a ≤ a') (hb : b ≤ b') : rl a' b' W W' :=
  ⟨by have := h.1; omega, by have := h.2.1; omega, h.2.2⟩
theorem rl.rfl' {a b : Nat} {W : Nat → Int32} : rl a b W W := ⟨by omega, by omega, fun _ _ => rfl⟩
theorem ro_cg {W W' : Nat → Int32} (hn : mo_n (W 13) ≤ 6) (h13 : W' 13 = W 13) (h : ∀ j, 507 ≤ j → j < 537 → W' j = W j) : ro W' = ro W := by
  unfold ro
  rw [h13]
  exact sm_cg (fun k hk => by rw [h _ (by omega) (by omega)])
theorem rg_cg {W W' : Nat → Int32} (hn : mo_n (W 13) ≤ 6) (h13 : W' 13 = W 13) (h : ∀ j, 507 ≤ j → j < 537 → W' j = W j) : rg W' = rg W := by
  unfold rg
  rw [h13]
  exact sm_cg (fun k hk => by unfold rgf; rw [h _ (by omega) (by omega), h _ (by omega) (by omega)])
theorem sp_cg {W W' : Nat → Int32} (h : ∀ k, k < 40 → (W' (87 + k) = nI 2 ↔ W (87 + k) = nI 2)) : sp W' = sp W := by
  unfold sp
  exact mo_cnt_cg (fun k hk => by rw [decide_eq_decide.mpr (h k hk)])
theorem rl_cg {W W' : Nat → Int32} (hn : mo_n (W 13) ≤ 6) (h : ∀ j, (12 ≤ j ∧ j < 16) ∨ (87 ≤ j ∧ j < 127) ∨ (507 ≤ j ∧ j < 537) ∨ 3137 ≤ j → W' j = W j) : rl 0 0 W W' := by
  have e1 := ro_cg hn (h 13 (by omega)) (fun j a b => h j (by omega))
  have e2 := rg_cg hn (h 13 (by omega)) (fun j a b => h j (by omega))
  have e3 : sp W' = sp W := sp_cg (fun k hk => by rw [h _ (by omega)])
  refine ⟨?_, ?_, fun j hj => h j (by omega)⟩
  · unfold PH; rw [h 15 (by omega), h 12 (by omega), e1]; omega
  · unfold PG; rw [h 14 (by omega), e2, e3]; omega
theorem ml_inc {x : Int32} {n : Nat} (h : x = nI n) (hn : n < 100000) : mo_n (x + nI 1) = mo_n x + 1 := by rw [h, nI_add, ml_n (r := n + 1) (by omega), ml_n (r := n) (by omega)]
section RL
variable {W : Nat → Int32} {c : Nat}
theorem rl_up {j : Nat} {x : Int32} (hv : iv c W) (hj : ¬ ((12 ≤ j ∧ j < 16) ∨ (87 ≤ j ∧ j < 127) ∨ (507 ≤ j ∧ j < 537) ∨ 3137 ≤ j)) : rl 0 0 W (upd W j x) := rl_cg (ml_n6 hv.1) (fun i hi => pk_un (by rintro rfl; exact hj hi))
theorem ml_send_x {e p k : Nat} {v : Int32} (he : e < 2) (hp : p < 5) : mo_send W e p k v (14 + e) = W (14 + e) + nI 1 := by
  unfold mo_send
  by_cases hf : W 11 = nI 24
  · rw [if_pos hf, pk_un (by omega)]
    split
    · rw [pk_un (by omega), pk_us]
    · rw [pk_us]
  · rw [if_neg hf, pk_un (by omega), mo_put_out (by omega)]
    split
    · rw [pk_un (by omega), pk_us]
    · rw [pk_us]
theorem rl_send {e p k : Nat} {v : Int32} (hv : iv c W) (he : e < 2) (hp : p < 5) : rl (2 * e) (1 - e) W (mo_send W e p k v) := by
  have hn6 := ml_n6 hv.1
  have ho : ∀ j, (j < 10 ∨ 11 < j) → j ≠ 14 + e → ¬ (42 ≤ j ∧ j < 47) → (j < 327 ∨ 471 ≤ j) → mo_send W e p k v j = W j := fun j a b d f => ml_send_out hv.1 hp a b d f
  have e1 : ro (mo_send W e p k v) = ro W := ro_cg hn6 (ho 13 (by omega) (by omega) (by omega) (by omega)) (fun j a b => ho j (by omega) (by omega) (by omega) (by omega))
  have e2 : rg (mo_send W e p k v) = rg W := rg_cg hn6 (ho 13 (by omega) (by omega) (by omega) (by omega)) (fun j a b => ho j (by omega) (by omega) (by omega) (by omega))
  have e3 : sp (mo_send W e p k v) = sp W := sp_cg (fun k hk => by rw [ho _ (by omega) (by omega) (by omega) (by omega)])
  have h12 := ho 12 (by omega) (by omega) (by omega) (by omega)
  have hx := ml_send_x (W := W) (k := k) (v := v) he hp
  obtain ⟨⟨x0, b0, q0⟩, ⟨x1, b1, q1⟩⟩ := hv.2.1
  refine ⟨?_, ?_, fun j hj => ho j (by omega) (by omega) (by omega) (by omega)⟩
  · unfold PH
    rw [e1, h12]
    rcases (show e = 0 ∨ e = 1 by omega) with rfl | rfl
    · rw [ho 15 (by omega) (by omega) (by omega) (by omega)]; omega
    · rw [show mo_send W 1 p k v 15 = W 15 + nI 1 from hx, ml_inc q1 (by omega)]; omega
  · unfold PG
    rw [e2, e3]
    rcases (show e = 0 ∨ e = 1 by omega) with rfl | rfl
    · rw [show mo_send W 0 p k v 14 = W 14 + nI 1 from hx, ml_inc q0 (by omega)]; omega
    · rw [ho 14 (by omega) (by omega) (by omega) (by omega)]; omega
theorem ml_hold_n {p k : Nat} {v : Int32} (hc : iv_c W) : mo_n (mo_hold W p k v 12) ≤ mo_n (W 12) + 1 := by
  have hi := ml_i12 hc
  have hr := ml_n12 hc
  unfold mo_hold
  by_cases hf : W 12 = nI 12
  · rw [if_pos hf, pk_us, ml_rmh_q hf (by omega), hf]; decide
  · rw [if_neg hf, pk_us, ml_inc hi (by omega)]; omega
theorem rl_hold {p k : Nat} {v : Int32} (hc : iv_c W) : rl 2 0 W (mo_hold W p k v) := by
  have hn6 := ml_n6 hc
  have ho : ∀ j, (j < 471 ∨ 507 ≤ j) → j ≠ 12 → mo_hold W p k v j = W j := fun j a b => ml_hold_out hc a b
  have e1 : ro (mo_hold W p k v) = ro W := ro_cg hn6 (ho 13 (by omega) (by omega)) (fun j a b => ho j (by omega) (by omega))
  have e2 : rg (mo_hold W p k v) = rg W := rg_cg hn6 (ho 13 (by omega) (by omega)) (fun j a b => ho j (by omega) (by omega))
  have e3 : sp (mo_hold W p k v) = sp W := sp_cg (fun k hk => by rw [ho _ (by omega) (by omega)])
  have hh := ml_hold_n (W := W) (p := p) (k := k) (v := v) hc
  refine ⟨?_, ?_, fun j hj => ho j (by omega) (by omega)⟩
  · unfold PH; rw [e1, ho 15 (by omega) (by omega)]; omega
  · unfold PG; rw [e2, e3, ho 14 (by omega) (by omega)]; omega
theorem rl_goes {e p k : Nat} {v : Int32} (hv : iv c W) (he : e < 2) (hp : p < 5) : rl (2 * e) (1 - e) W (mo_goes W e p k v) := by
  unfold mo_goes
  split
  · exact rl_send hv he hp
  · next h =>
    have : e = 1 := by
      rcases (show e = 0 ∨ e = 1 by omega) with q | q
      · exact absurd (Or.inl q) h
      · exact q
    subst this
    exact rl_hold hv.1
theorem rl_rmh {k : Nat} (hc : iv_c W) (hk : k < mo_n (W 12)) : PH (mo_rm W 471 3 12 k) + 2 = PH W ∧ PG (mo_rm W 471 3 12 k) = PG W ∧ ∀ j, 3137 ≤ j → mo_rm W 471 3 12 k j = W j := by
  have hi := ml_i12 hc
  have hr := ml_n12 hc
  have hn6 := ml_n6 hc
  have ho : ∀ j, (j < 471 ∨ 507 ≤ j) → j ≠ 12 → mo_rm W 471 3 12 k j = W j := fun j a b => ml_rmh_out hi (by omega) hk (by omega) b
  have e1 : ro (mo_rm W 471 3 12 k) = ro W := ro_cg hn6 (ho 13 (by omega) (by omega)) (fun j a b => ho j (by omega) (by omega))
  have e2 : rg (mo_rm W 471 3 12 k) = rg W := rg_cg hn6 (ho 13 (by omega) (by omega)) (fun j a b => ho j (by omega) (by omega))
  have e3 : sp (mo_rm W 471 3 12 k) = sp W := sp_cg (fun k hk => by rw [ho _ (by omega) (by omega)])
  have hq := ml_rmh_q (k := k) hi (by omega)
  refine ⟨?_, ?_, fun j hj => ho j (by omega) (by omega)⟩
  · unfold PH; rw [e1, hq, ho 15 (by omega) (by omega), ml_n (by omega)]; omega
  · unfold PG; rw [e2, e3, ho 14 (by omega) (by omega)]
theorem rl_lo {p : Nat} (hp : p < 5) : ∀ (n c : Nat) (W : Nat → Int32), iv (c + n) W → rl 0 0 W (mo_lo p n W)
  | 0, c, W, _ => rl.rfl'
  | n + 1, c, W, hv => by
    unfold mo_lo
    split
    · next hf =>
      split
      · obtain ⟨p2, kd, a1, a2, a3, a4, a5⟩ := hv.2.2.2.1 _ hf
        have h1 := rl_rmh hv.1 hf
        have hiv := iv_rmh hv hf
        have h2 := rl_send (k := mo_n (W (471 + 3 * mo_fh W p + 1))) (v := W (471 + 3 * mo_fh W p + 2)) hiv (e := 1) (by omega) hp
        have h3 := rl_lo hp n c _ (iv_send (c := c + n) (v := W (471 + 3 * mo_fh W p + 2)) (k := mo_n (W (471 + 3 * mo_fh W p + 1))) hiv (e := 1) (by omega) hp (by rw [a4, ml_n (by omega)]; exact a2) (by rw [a4, ml_n (by omega)]; exact a5))
        refine ⟨?_, ?_, fun j hj => ?_⟩
        · have := h1.1; have := h2.1; have := h3.1; omega
        · have := h1.2.1; have := h2.2.1; have := h3.2.1; omega
        · rw [h3.2.2 j hj, h2.2.2 j hj, h1.2.2 j hj]
      · exact rl.rfl'
    · exact rl.rfl'
theorem rl_letOut {p : Nat} (hv : iv (c + 12) W) (hp : p < 5) : rl 0 0 W (mo_letOut W p) := by
  unfold mo_letOut
  have := ml_n12 hv.1
  exact rl_lo hp _ c W (hv.less (by omega))
theorem rl_dh {p : Nat} : ∀ (n : Nat) (W : Nat → Int32), iv_c W → rl 0 0 W (mo_dh p n W)
  | 0, W, _ => rl.rfl'
  | n + 1, W, hc => by
    unfold mo_dh
    split
    · next hf =>
      have h1 := rl_rmh hc hf
      have h3 := rl_dh (p := p) n _ (ivc_rmh hc hf)
      refine ⟨?_, ?_, fun j hj => ?_⟩
      · have := h1.1; have := h3.1; omega
      · have := h1.2.1; have := h3.2.1; omega
      · rw [h3.2.2 j hj, h1.2.2 j hj]
    · exact rl.rfl'
theorem rl_rma {k : Nat} (hc : iv_c W) (hk : k < mo_n (W 13)) : PH (mo_rm W 507 5 13 k) + (2 - mo_n (W (507 + 5 * k + 4))) = PH W ∧ PG (mo_rm W 507 5 13 k) + rgf W k = PG W ∧ ∀ j, 3137 ≤ j → mo_rm W 507 5 13 k j = W j := by
  have hi := ml_i13 hc
  have hr := ml_n6 hc
  have ho : ∀ j, (j < 507 ∨ 537 ≤ j) → j ≠ 13 → mo_rm W 507 5 13 k j = W j := fun j a b => ml_rma_out hi (by omega) hk (by omega) b
  have hq := ml_rma_q (k := k) hi (by omega)
  have hqn : mo_n (mo_rm W 507 5 13 k 13) = mo_n (W 13) - 1 := by rw [hq, ml_n (by omega)]
  have e1 : ro (mo_rm W 507 5 13 k) + (2 - mo_n (W (507 + 5 * k + 4))) = ro W := by
    unfold ro
    rw [hqn, ← sm_rm (f := fun k => 2 - mo_n (W (507 + 5 * k + 4))) hk]
    congr 1
    exact sm_cg (fun i hi2 => by rw [ml_rma_row hi (by omega) hk hi2 (by omega)])
  have e2 : rg (mo_rm W 507 5 13 k) + rgf W k = rg W := by
    unfold rg
    rw [hqn, ← sm_rm (f := rgf W) hk]
    congr 1
    exact sm_cg (fun i hi2 => by unfold rgf; rw [ml_rma_row hi (by omega) hk hi2 (by omega), ml_rma_row0 hi (by omega) hk hi2])
  have e3 : sp (mo_rm W 507 5 13 k) = sp W := sp_cg (fun k hk => by rw [ho _ (by omega) (by omega)])
  refine ⟨?_, ?_, fun j hj => ho j (by omega) (by omega)⟩
  · unfold PH; rw [ho 15 (by omega) (by omega), ho 12 (by omega) (by omega)]; omega
  · unfold PG; rw [e3, ho 14 (by omega) (by omega)]; omega
theorem rl_rma' {k : Nat} (hc : iv_c W) (hk : k < mo_n (W 13)) : rl 0 0 W (mo_rm W 507 5 13 k) := by
  have h := rl_rma hc hk
  exact ⟨by omega, by omega, h.2.2⟩
/-- one more challenge -/
theorem rl_adda {e n z : Nat} {x v pl t : Int32} (hc : iv_c W) (he : e < 2) (hn : W 13 = nI n) (hn2 : n < 6) (hz : z = 16 + e) : rl 2 (4 * (1 - e)) W (upd (mo_put (upd W z x) (507 + 5 * n) 5 (mo_r5 (nI e) v pl t (nI 0))) 13 (nI (n + 1))) := by
  obtain ⟨V, hV⟩ : ∃ V, V = upd (mo_put (upd W z x) (507 + 5 * n) 5 (mo_r5 (nI e) v pl t (nI 0))) 13 (nI (n + 1)) := ⟨_, rfl⟩
  rw [← hV]
  have hnn : mo_n (W 13) = n := by rw [hn, ml_n (by omega)]
  have h13 : mo_n (V 13) = n + 1 := by rw [hV, pk_us, ml_n (by omega)]
  have ho : ∀ j, j ≠ 13 → j ≠ z → (j < 507 + 5 * n ∨ 507 + 5 * n + 5 ≤ j) → V j = W j := fun j a b d => by rw [hV, pk_un a, mo_put_out d, pk_un b]
  have hr0 : V (507 + 5 * n) = nI e := by rw [hV, pk_un (by omega), mo_put_in (by omega) (by omega), Nat.sub_self]; rfl
  have hr4 : V (507 + 5 * n + 4) = nI 0 := by rw [hV, pk_un (by omega), mo_put_in (by omega) (by omega), show 507 + 5 * n + 4 - (507 + 5 * n) = 4 by omega]; rfl
  have e1 : ro V = ro W + 2 := by
    unfold ro
    rw [h13, hnn]
    show sm _ n + (2 - mo_n (V (507 + 5 * n + 4))) = _
    rw [hr4, sm_cg (g := fun k => 2 - mo_n (W (507 + 5 * k + 4))) (fun k hk => by rw [ho _ (by omega) (by omega) (by omega)])]
    rfl
  have e2 : rg V = rg W + 4 * (1 - e) := by
    unfold rg
    rw [h13, hnn]
    show sm (rgf V) n + rgf V n = _
    rw [sm_cg (g := rgf W) (fun k hk => by unfold rgf; rw [ho _ (by omega) (by omega) (by omega), ho _ (by omega) (by omega) (by omega)])]
    unfold rgf
    rw [hr0, hr4]
    rcases (show e = 0 ∨ e = 1 by omega) with rfl | rfl
    · rw [if_pos rfl]; rfl
    · rw [if_neg (by decide)]
  have e3 : sp V = sp W := sp_cg (fun k hk => by rw [ho _ (by omega) (by omega) (by omega)])
  refine ⟨?_, ?_, fun j hj => ho j (by omega) (by omega) (by omega)⟩
  · unfold PH; rw [e1, ho 15 (by omega) (by omega) (by omega), ho 12 (by omega) (by omega) (by omega)]; omega
  · unfold PG; rw [e2, e3, ho 14 (by omega) (by omega) (by omega)]; omega
theorem rl_ask {e p : Nat} (hv : iv c W) (he : e < 2) : rl 2 (4 * (1 - e)) W (mo_ask W e p) := by
  have hi := ml_i13 hv.1
  have hr := ml_n6 hv.1
  unfold mo_ask
  by_cases hf : W 13 = nI 6
  · rw [if_pos hf]
    have h0 : 0 < mo_n (W 13) := by rw [hf]; decide
    have h1 := rl_rma' hv.1 h0
    have hq : mo_rm W 507 5 13 0 13 = nI 5 := by rw [ml_rma_q hf (by omega)]
    have h2 := rl_adda (x := W (16 + e) + nI 1) (v := W (16 + e)) (pl := nI p) (t := W 0) (iv_rma hv h0).1 he hq (by omega) (rfl : 16 + e = 16 + e)
    dsimp only
    rw [hq, ml_n (by omega)]
    rw [show nI 5 + nI 1 = nI (5 + 1) by rw [nI_add]]
    exact (h1.trans h2).mono (by omega) (by omega)
  · rw [if_neg hf]
    have h5 : mo_n (W 13) < 6 := by
      have : ¬ mo_n (W 13) = 6 := fun q => hf (by rw [hi, q])
      omega
    have h2 := rl_adda (x := W (16 + e) + nI 1) (v := W (16 + e)) (pl := nI p) (t := W 0) hv.1 he hi h5 (rfl : 16 + e = 16 + e)
    dsimp only
    rw [show W 13 + nI 1 = nI (mo_n (W 13) + 1) by rw [← nI_add, ← hi]]
    exact h2
theorem rl_challenge {e p : Nat} (hv : iv (c + 1) W) (he : e < 2) (hp : p < 5) : rl (2 + 2 * e) (4 * (1 - e) + (1 - e)) W (mo_challenge W e p) := (rl_ask hv he).trans (rl_goes (iv_ask hv he hp) he hp)
theorem rl_once {p : Nat} (hv : iv (c + 1) W) (hp : p < 5) : rl 4 0 W (mo_once W p) := by
  unfold mo_once
  split
  · exact (rl_challenge hv (e := 1) (by omega) hp).mono (by omega) (by omega)
  · exact rl.rfl'
theorem rl_heard {e : Nat} (hv : iv c W) (he : e < 2) : rl (2 * e) (1 - e) W (mo_heard W e) := rl_goes hv he (ml_cur hv.2.2.2.2.2.2.2.1 he).1
theorem rl_word {e v : Nat} (hv : iv c W) (he : e < 2) (hv2 : v < 100) : rl (2 * e) (1 - e) W (mo_word W e v) := by
  have h1 : rl 0 0 W (upd W (127 + 100 * e + v) (nI 1)) := rl_up hv (by omega)
  exact (h1.trans (rl_heard (iv_has hv he hv2) he)).mono (by omega) (by omega)
theorem rl_confirm {e : Nat} {x : Int32} (hv : iv c W) (he : e < 2) : rl 0 0 W (mo_confirm W e x) := rl_up hv (by omega)
theorem rl_follow {p : Nat} (hv : iv (c + 1) W) (hp : p < 5) : rl 4 0 W (mo_follow W p) := by
  have hn6 := ml_n6 hv.1
  unfold mo_follow
  split
  · exact rl.rfl'
  · next h =>
    obtain ⟨q, hq, h3⟩ := ml_c3 hv
    have hS : iv (c + 1) (mo_folS (upd W 6 (nI 0)) p 0 0) := iv_folS (hv.free (fun j a => pk_un (by omega))) hp
    have h1 : rl 0 0 W (upd (upd W 5 (if W (32 + mo_n (W 3)) = nI 1 then W 3 else W 5)) 3 (nI p)) := rl_cg hn6 (fun j a => by rw [pk_un (by omega), pk_un (by omega)])
    have hi2 : iv (c + 1) (upd (upd W 5 (if W (32 + mo_n (W 3)) = nI 1 then W 3 else W 5)) 3 (nI p)) := by
      obtain ⟨b1, b2, b3⟩ := hv.2.2.2.2.2.2.2.2
      have hb2 : ∃ p, p < 5 ∧ (if W (32 + mo_n (W 3)) = nI 1 then W 3 else W 5) = nI p := by
        split
        · exact ⟨q, hq, h3⟩
        · next hn =>
          rcases b3 with z | z
          · exact absurd z hn
          · exact z
      refine iv_cur hv (fun j a => by rw [pk_un (by omega), pk_un (by omega)]) ?_ ⟨p, hp, pk_us⟩ ?_ ?_ (Or.inr ?_)
      · rw [pk_un (by omega), pk_un (by omega)]; exact ml_c2 hv
      · rw [pk_un (by omega), pk_un (by omega)]; exact b1
      · rw [pk_un (by omega), pk_us]; exact Or.inr hb2
      · rw [pk_un (by omega), pk_us]; exact hb2
    exact (h1.trans (rl_once hi2 hp)).mono (by omega) (by omega)
theorem rl_new {p k y : Nat} (hv : iv (c + 1) W) (hp : p < 5) : rl (if k = 0 ∨ 3 < k then 4 else 0) 0 W (mo_new W p k y) := by
  unfold mo_new
  by_cases h : (k = 0 ∨ 3 < k) ∧ W 6 < nI y
  · rw [if_pos h, if_pos h.1]
    have h1 : rl 0 0 W (upd W 6 (nI y)) := rl_up hv (by omega)
    exact (h1.trans (rl_follow (hv.free (fun j a => pk_un (by omega))) hp)).mono (by omega) (by omega)
  · rw [if_neg h]; exact rl.rfl'
theorem rl_prove {x : Int32} (hv : iv (c + 12) W) : rl 0 0 W (mo_prove W x) := by
  unfold mo_prove
  split
  · next hf =>
    obtain ⟨e, p, t, a1, a2, a3, a4, a5, a6⟩ := hv.2.2.2.2.1 _ hf
    rw [a5, ml_n (by omega)]
    have h1 := rl_rma' hv.1 hf
    have hi := iv_rma hv hf
    have h2 : rl 0 0 (mo_rm W 507 5 13 (mo_fa W 1 1 x)) (upd (mo_rm W 507 5 13 (mo_fa W 1 1 x)) (32 + p) (nI 1)) := rl_up hi (by omega)
    exact ((h1.trans h2).trans (rl_letOut (c := c) (iv_proved hi a2) a2)).mono (by omega) (by omega)
  · exact rl.rfl'
theorem rl_retire {x own : Int32} (hv : iv (c + 1) W) : rl 2 0 W (mo_retire W x own) := by
  have hn6 := ml_n6 hv.1
  unfold mo_retire
  split
  · next h =>
    obtain ⟨h1, h2, h3, h4, h5⟩ := ml_live hv h.1
    obtain ⟨q, hq, hc3⟩ := ml_c3 hv
    split
    · next hg =>
      have hg2 : mo_n (W 1) < 40 := by rw [h4, nI_ltI (by omega) (by omega)] at hg; exact hg
      rw [hc3, ml_n (by omega)]
      have e1 : rl 0 0 W (upd (upd (upd W (47 + mo_n x) (nI 0)) (47 + mo_n (W 1)) (nI 1)) 1 (W 1 + nI 1)) := rl_cg hn6 (fun j a => by rw [pk_un (by omega), pk_un (by omega), pk_un (by omega)])
      have hU : iv (c + 1) (upd (upd (upd W (47 + mo_n x) (nI 0)) (47 + mo_n (W 1)) (nI 1)) 1 (W 1 + nI 1)) := by
        obtain ⟨g, g2, g40, hgg, hnm⟩ := hv.2.2.2.2.2.2.1
        have hge : mo_n (W 1) = g := by rw [hgg, ml_n (by omega)]
        refine iv_names hv (fun j a b => by rw [pk_un (by omega), pk_un (by omega), pk_un (by omega)]) ⟨g + 1, by omega, by omega, by rw [pk_us, hgg, nI_add], fun n hn => ?_⟩
        rw [pk_un (by omega), pk_un (by omega : 87 + n ≠ 1), pk_un (by omega : 87 + n ≠ 47 + mo_n (W 1)), pk_un (by omega : 87 + n ≠ 47 + mo_n x)]
        refine ⟨?_, fun hgn => ?_, (hnm n hn).2.2⟩
        · by_cases q1 : n = mo_n (W 1)
          · rw [q1, pk_us]; exact Or.inr rfl
          · rw [pk_un (by omega)]
            by_cases q2 : n = mo_n x
            · rw [q2, pk_us]; exact Or.inl rfl
            · rw [pk_un (by omega)]; exact (hnm n hn).1
        · rw [pk_un (by omega), pk_un (by omega)]; exact (hnm n hn).2.1 (by omega)
      exact (e1.trans (rl_goes hU (e := 1) (by omega) hq)).mono (by omega) (by omega)
    · exact (rl_cg hn6 (fun j a => pk_un (by omega))).mono (by omega) (by omega)
  · exact rl.rfl'
end RL
