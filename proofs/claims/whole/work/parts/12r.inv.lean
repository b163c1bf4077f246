/-! THE INVARIANT of the row W; c is how many letters each end may still number -/
def iv_v (e kd : Nat) (x : Int32) : Prop := (kd = 0 → ∃ v, v < 100 ∧ x = nI v) ∧ (kd = 3 → e = 1 → ∃ v, v < 40 ∧ x = nI v) ∧ (kd = 5 → ∃ v, v ≤ 100 ∧ x = nI v)
def iv_c (W : Nat → Int32) : Prop := (∃ r, r ≤ 24 ∧ W 11 = nI r) ∧ (∃ n, n ≤ 12 ∧ W 12 = nI n) ∧ (∃ a, a ≤ 6 ∧ W 13 = nI a)
def iv_x (c : Nat) (W : Nat → Int32) : Prop := (∃ x, x + c ≤ 32700 ∧ W 14 = nI x) ∧ (∃ x, x + c ≤ 32700 ∧ W 15 = nI x)
def iv_r (W : Nat → Int32) : Prop := ∀ k, k < mo_n (W 11) → ∃ e p y kd : Nat, e < 2 ∧ p < 5 ∧ y < 32768 ∧ kd < 6 ∧ W (327 + 6 * k) = nI e ∧ W (327 + 6 * k + 1) = nI p ∧ W (327 + 6 * k + 3) = nI y ∧ W (327 + 6 * k + 4) = nI kd ∧ iv_v e kd (W (327 + 6 * k + 5))
def iv_h (W : Nat → Int32) : Prop := ∀ k, k < mo_n (W 12) → ∃ p kd : Nat, p < 5 ∧ kd < 6 ∧ W (471 + 3 * k) = nI p ∧ W (471 + 3 * k + 1) = nI kd ∧ iv_v 1 kd (W (471 + 3 * k + 2))
def iv_a (W : Nat → Int32) : Prop := ∀ k, k < mo_n (W 13) → ∃ e p t : Nat, e < 2 ∧ p < 5 ∧ t ≤ 2 ∧ W (507 + 5 * k) = nI e ∧ W (507 + 5 * k + 2) = nI p ∧ W (507 + 5 * k + 4) = nI t
def iv_p (W : Nat → Int32) : Prop := ∀ p, p < 5 → (W (22 + p) = -1 ∨ ∃ n, n < 40 ∧ W (22 + p) = nI n) ∧ (W (27 + p) = nI 0 ∨ W (27 + p) = nI 1) ∧ (W (32 + p) = nI 0 ∨ W (32 + p) = nI 1)
def iv_n (W : Nat → Int32) : Prop := ∃ g, 2 ≤ g ∧ g ≤ 40 ∧ W 1 = nI g ∧ ∀ n, n < 40 → (W (47 + n) = nI 0 ∨ W (47 + n) = nI 1) ∧ (g ≤ n → W (47 + n) = nI 0) ∧ (W (87 + n) = nI 0 ∨ W (87 + n) = nI 1 ∨ W (87 + n) = nI 2)
def iv_w (W : Nat → Int32) : Prop := ∀ e, e < 2 → (∃ n, n ≤ 40 ∧ W (18 + e) = nI n) ∧ (∃ v, v ≤ 100 ∧ W (20 + e) = nI v) ∧ (∃ p, p < 5 ∧ W (2 + e) = nI p) ∧ ∀ k, k < 100 → W (127 + 100 * e + k) = nI 0 ∨ W (127 + 100 * e + k) = nI 1
def iv_b (W : Nat → Int32) : Prop := (W 4 = -1 ∨ ∃ p, p < 5 ∧ W 4 = nI p) ∧ (W 5 = -1 ∨ ∃ p, p < 5 ∧ W 5 = nI p) ∧ (W (32 + mo_n (W 3)) = nI 1 ∨ ∃ p, p < 5 ∧ W 5 = nI p)
def iv (c : Nat) (W : Nat → Int32) : Prop := iv_c W ∧ iv_x c W ∧ iv_r W ∧ iv_h W ∧ iv_a W ∧ iv_p W ∧ iv_n W ∧ iv_w W ∧ iv_b W
section IVC
variable {W W' : Nat → Int32} {c : Nat}
theorem iv_c.cg (h : iv_c W) (q : ∀ j, 11 ≤ j → j < 14 → W' j = W j) : iv_c W' := by
  unfold iv_c
  rw [q 11 (by omega) (by omega), q 12 (by omega) (by omega), q 13 (by omega) (by omega)]
  exact h
theorem iv_x.cg (h : iv_x c W) (q : ∀ j, 14 ≤ j → j < 16 → W' j = W j) : iv_x c W' := by
  unfold iv_x
  rw [q 14 (by omega) (by omega), q 15 (by omega) (by omega)]
  exact h
theorem ml_n24 (h : iv_c W) : mo_n (W 11) ≤ 24 := by obtain ⟨⟨r, h1, h2⟩, -⟩ := h; rw [h2, ml_n (by omega)]; exact h1
theorem ml_n12 (h : iv_c W) : mo_n (W 12) ≤ 12 := by obtain ⟨-, ⟨r, h1, h2⟩, -⟩ := h; rw [h2, ml_n (by omega)]; exact h1
theorem ml_n6 (h : iv_c W) : mo_n (W 13) ≤ 6 := by obtain ⟨-, -, ⟨r, h1, h2⟩⟩ := h; rw [h2, ml_n (by omega)]; exact h1
theorem ml_i11 (h : iv_c W) : W 11 = nI (mo_n (W 11)) := by obtain ⟨⟨r, h1, h2⟩, -⟩ := h; rw [h2, ml_n (by omega)]
theorem ml_i12 (h : iv_c W) : W 12 = nI (mo_n (W 12)) := by obtain ⟨-, ⟨r, h1, h2⟩, -⟩ := h; rw [h2, ml_n (by omega)]
theorem ml_i13 (h : iv_c W) : W 13 = nI (mo_n (W 13)) := by obtain ⟨-, -, ⟨r, h1, h2⟩⟩ := h; rw [h2, ml_n (by omega)]
theorem iv_r.cg (h : iv_r W) (h0 : W' 11 = W 11) (hc : mo_n (W 11) ≤ 24) (q : ∀ j, 327 ≤ j → j < 471 → W' j = W j) : iv_r W' := by
  intro k hk
  rw [h0] at hk
  rw [q _ (by omega) (by omega), q _ (by omega) (by omega), q _ (by omega) (by omega), q _ (by omega) (by omega), q _ (by omega) (by omega)]
  exact h k hk
theorem iv_h.cg (h : iv_h W) (h0 : W' 12 = W 12) (hc : mo_n (W 12) ≤ 12) (q : ∀ j, 471 ≤ j → j < 507 → W' j = W j) : iv_h W' := by
  intro k hk
  rw [h0] at hk
  rw [q _ (by omega) (by omega), q _ (by omega) (by omega), q _ (by omega) (by omega)]
  exact h k hk
theorem iv_a.cg (h : iv_a W) (h0 : W' 13 = W 13) (hc : mo_n (W 13) ≤ 6) (q : ∀ j, 507 ≤ j → j < 537 → W' j = W j) : iv_a W' := by
  intro k hk
  rw [h0] at hk
  rw [q _ (by omega) (by omega), q _ (by omega) (by omega), q _ (by omega) (by omega)]
  exact h k hk
theorem iv_p.cg (h : iv_p W) (q : ∀ j, 22 ≤ j → j < 37 → W' j = W j) : iv_p W' := by
  intro p hp
  rw [q _ (by omega) (by omega), q _ (by omega) (by omega), q _ (by omega) (by omega)]
  exact h p hp
theorem iv_n.cg (h : iv_n W) (h0 : W' 1 = W 1) (q : ∀ j, 47 ≤ j → j < 127 → W' j = W j) : iv_n W' := by
  obtain ⟨g, h1, h2, h3, h4⟩ := h
  refine ⟨g, h1, h2, h0.trans h3, fun n hn => ?_⟩
  rw [q _ (by omega) (by omega), q _ (by omega) (by omega)]
  exact h4 n hn
theorem iv_w.cg (h : iv_w W) (q : ∀ j, (j = 2 ∨ j = 3 ∨ (18 ≤ j ∧ j < 22) ∨ (127 ≤ j ∧ j < 327)) → W' j = W j) : iv_w W' := by
  intro e he
  obtain ⟨h1, h2, h3, h4⟩ := h e he
  rw [q (18 + e) (by omega), q (20 + e) (by omega), q (2 + e) (by omega)]
  refine ⟨h1, h2, h3, fun k hk => ?_⟩
  rw [q _ (by omega)]
  exact h4 k hk
theorem ml_cur (h : iv_w W) {e : Nat} (he : e < 2) : mo_n (W (2 + e)) < 5 ∧ W (2 + e) = nI (mo_n (W (2 + e))) := by
  obtain ⟨-, -, ⟨p, hp, hw⟩, -⟩ := h e he
  rw [hw, ml_n (by omega)]
  exact ⟨hp, rfl⟩
theorem iv_b.cg (h : iv_b W) (hw : iv_w W) (q : ∀ j, ((3 ≤ j ∧ j < 6) ∨ (32 ≤ j ∧ j < 37)) → W' j = W j) : iv_b W' := by
  obtain ⟨h1, h2, h3⟩ := h
  have hc : mo_n (W 3) < 5 := (ml_cur hw (e := 1) (by omega)).1
  unfold iv_b
  rw [q 4 (by omega), q 5 (by omega), q 3 (by omega), q (32 + mo_n (W 3)) (by omega)]
  exact ⟨h1, h2, h3⟩
/-- places that the invariant doesn't speak of -/
theorem iv.free (h : iv c W) (q : ∀ j, (1 ≤ j ∧ j < 6) ∨ (11 ≤ j ∧ j < 16) ∨ (18 ≤ j ∧ j < 37) ∨ (47 ≤ j ∧ j < 537) → W' j = W j) : iv c W' := by
  obtain ⟨h1, h2, h3, h4, h5, h6, h7, h8, h9⟩ := h
  exact ⟨h1.cg (fun j a b => q j (by omega)), h2.cg (fun j a b => q j (by omega)), h3.cg (q 11 (by omega)) (ml_n24 h1) (fun j a b => q j (by omega)), h4.cg (q 12 (by omega)) (ml_n12 h1) (fun j a b => q j (by omega)), h5.cg (q 13 (by omega)) (ml_n6 h1) (fun j a b => q j (by omega)), h6.cg (fun j a b => q j (by omega)), h7.cg (q 1 (by omega)) (fun j a b => q j (by omega)), h8.cg (fun j a => q j (by omega)), h9.cg h8 (fun j a => q j (by omega))⟩
theorem iv.less {c' : Nat} (h : iv c W) (hc : c' ≤ c) : iv c' W := by
  obtain ⟨h1, ⟨⟨x, a, b⟩, ⟨y, d, e⟩⟩, h3⟩ := h
  exact ⟨h1, ⟨⟨x, by omega, b⟩, ⟨y, by omega, e⟩⟩, h3⟩
end IVC
theorem ml_put_cnt {W r : Nat → Int32} {a n q : Nat} {x : Int32} (h : q < a) : upd (mo_put W a n r) q x q = x := pk_us
theorem iv_send {W : Nat → Int32} {c e p k : Nat} {v : Int32} (h : iv (c + 1) W) (he : e < 2) (hp : p < 5) (hk : k < 6) (hv : iv_v e k v) : iv c (mo_send W e p k v) := by
  obtain ⟨h1, h2, h3, h4, h5, h6, h7, h8, h9⟩ := h
  obtain ⟨x, hx, hxe⟩ : ∃ x, x + (c + 1) ≤ 32700 ∧ W (14 + e) = nI x := by
    rcases (show e = 0 ∨ e = 1 by omega) with rfl | rfl
    · exact h2.1
    · exact h2.2
  have hr := ml_n24 h1
  have hi := ml_i11 h1
  -- outside the road, its count, the numbers, PUT and LOST nothing changes
  have hout : ∀ j, (j < 10 ∨ 11 < j) → j ≠ 14 + e → ¬ (42 ≤ j ∧ j < 47) → (j < 327 ∨ 471 ≤ j) → mo_send W e p k v j = W j := by
    intro j a b d f
    unfold mo_send
    by_cases hf : W 11 = nI 24
    · rw [if_pos hf, pk_un (by omega)]
      split
      · rw [pk_un (by omega), pk_un (by omega)]
      · rw [pk_un (by omega)]
    · rw [if_neg hf, pk_un (by omega), mo_put_out (by
        by_cases hq : mo_n (W 11) = 24
        · exact absurd (by rw [hi, hq]) hf
        · omega)]
      split
      · rw [pk_un (by omega), pk_un (by omega)]
      · rw [pk_un (by omega)]
  have hnum : mo_send W e p k v (14 + e) = nI (x + 1) := by
    unfold mo_send
    by_cases hf : W 11 = nI 24
    · rw [if_pos hf, pk_un (by omega)]
      split
      · rw [pk_un (by omega), pk_us, hxe, nI_add]
      · rw [pk_us, hxe, nI_add]
    · rw [if_neg hf, pk_un (by omega), mo_put_out (by omega)]
      split
      · rw [pk_un (by omega), pk_us, hxe, nI_add]
      · rw [pk_us, hxe, nI_add]
  have hroad : (mo_send W e p k v 11 = W 11 ∧ ∀ j, 327 ≤ j → j < 471 → mo_send W e p k v j = W j) ∨ (mo_n (W 11) < 24 ∧ mo_send W e p k v 11 = nI (mo_n (W 11) + 1) ∧ ∀ j, 327 ≤ j → j < 471 → mo_send W e p k v j = mo_put W (327 + 6 * mo_n (W 11)) 6 (mo_r6 (nI e) (nI p) (if e = 0 then W (22 + p) else -1) (W (14 + e)) (nI k) v) j) := by
    unfold mo_send
    by_cases hf : W 11 = nI 24
    · left
      rw [if_pos hf]
      refine ⟨?_, fun j a b => ?_⟩
      · rw [pk_un (by omega)]
        split
        · rw [pk_un (by omega), pk_un (by omega)]
        · rw [pk_un (by omega)]
      · rw [pk_un (by omega)]
        split
        · rw [pk_un (by omega), pk_un (by omega)]
        · rw [pk_un (by omega)]
    · right
      rw [if_neg hf]
      have h24 : mo_n (W 11) < 24 := by
        by_cases hq : mo_n (W 11) = 24
        · exact absurd (by rw [hi, hq]) hf
        · omega
      refine ⟨h24, ?_, fun j a b => ?_⟩
      · rw [pk_us]
        conv => lhs; rw [hi]
        rw [nI_add]
      · rw [pk_un (by omega)]
        by_cases hj : 327 + 6 * mo_n (W 11) ≤ j ∧ j < 327 + 6 * mo_n (W 11) + 6
        · rw [mo_put_in hj.1 hj.2, mo_put_in hj.1 hj.2]
        · rw [mo_put_out (by omega), mo_put_out (by omega)]
          split
          · rw [pk_un (by omega), pk_un (by omega)]
          · rw [pk_un (by omega)]
  refine ⟨⟨?_, ?_, ?_⟩, ⟨?_, ?_⟩, ?_, ?_, ?_, ?_, ?_, ?_, ?_⟩
  · rcases hroad with ⟨a, -⟩ | ⟨a, b, -⟩
    · rw [a]; exact h1.1
    · exact ⟨_, by omega, b⟩
  · rw [hout 12 (by omega) (by omega) (by omega) (by omega)]; exact h1.2.1
  · rw [hout 13 (by omega) (by omega) (by omega) (by omega)]; exact h1.2.2
  · rcases (show e = 0 ∨ e = 1 by omega) with rfl | rfl
    · exact ⟨x + 1, by omega, hnum⟩
    · rw [hout 14 (by omega) (by omega) (by omega) (by omega)]
      obtain ⟨z, a, b⟩ := h2.1
      exact ⟨z, by omega, b⟩
  · rcases (show e = 0 ∨ e = 1 by omega) with rfl | rfl
    · rw [hout 15 (by omega) (by omega) (by omega) (by omega)]
      obtain ⟨z, a, b⟩ := h2.2
      exact ⟨z, by omega, b⟩
    · exact ⟨x + 1, by omega, hnum⟩
  · rcases hroad with ⟨a, b⟩ | ⟨a, b, d⟩
    · exact h3.cg a hr b
    · intro j hj
      rw [b, ml_n (by omega)] at hj
      rw [d _ (by omega) (by omega), d _ (by omega) (by omega), d _ (by omega) (by omega), d _ (by omega) (by omega), d _ (by omega) (by omega)]
      by_cases hjr : j = mo_n (W 11)
      · subst hjr
        rw [mo_put_in (by omega) (by omega), mo_put_in (by omega) (by omega), mo_put_in (by omega) (by omega), mo_put_in (by omega) (by omega), mo_put_in (by omega) (by omega)]
        simp only [Nat.sub_self, show 327 + 6 * mo_n (W 11) + 1 - (327 + 6 * mo_n (W 11)) = 1 by omega, show 327 + 6 * mo_n (W 11) + 3 - (327 + 6 * mo_n (W 11)) = 3 by omega, show 327 + 6 * mo_n (W 11) + 4 - (327 + 6 * mo_n (W 11)) = 4 by omega, show 327 + 6 * mo_n (W 11) + 5 - (327 + 6 * mo_n (W 11)) = 5 by omega, mo_r6]
        exact ⟨e, p, x, k, he, hp, by omega, hk, rfl, rfl, hxe, rfl, hv⟩
      · rw [mo_put_out (by omega), mo_put_out (by omega), mo_put_out (by omega), mo_put_out (by omega), mo_put_out (by omega)]
        exact h3 j (by omega)
  · exact h4.cg (hout 12 (by omega) (by omega) (by omega) (by omega)) (ml_n12 h1) (fun j a b => hout j (by omega) (by omega) (by omega) (by omega))
  · exact h5.cg (hout 13 (by omega) (by omega) (by omega) (by omega)) (ml_n6 h1) (fun j a b => hout j (by omega) (by omega) (by omega) (by omega))
  · exact h6.cg (fun j a b => hout j (by omega) (by omega) (by omega) (by omega))
  · exact h7.cg (hout 1 (by omega) (by omega) (by omega) (by omega)) (fun j a b => hout j (by omega) (by omega) (by omega) (by omega))
  · exact h8.cg (fun j a => hout j (by omega) (by omega) (by omega) (by omega))
  · exact h9.cg h8 (fun j a => hout j (by omega) (by omega) (by omega) (by omega))
